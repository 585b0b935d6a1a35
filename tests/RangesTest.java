import java.util.NoSuchElementException;

/**
 * Each range of the promises: every number in it is allowed, the least and the greatest too; the
 * numbers just below and just above are refused, and those that would be in the range after a
 * wrap-around. Of a number of a core, a group, a task, a lock or a place, the range is what is
 * there: none yet, one, and as many as there can be.
 */
public final class RangesTest {
    private interface With {
        Object call(TaskKernel x, int number);
    }

    private static final Class<IllegalArgumentException> ARGUMENT = IllegalArgumentException.class;
    private static final Class<IllegalStateException> STATE = IllegalStateException.class;
    private static final Class<IndexOutOfBoundsException> INDEX = IndexOutOfBoundsException.class;
    private static final Class<NoSuchElementException> NOT_THERE = NoSuchElementException.class;
    private static final Class<UnsupportedOperationException> UNSUPPORTED =
            UnsupportedOperationException.class;

    private static final Checks checks = new Checks();

    public static void main(String[] args) {
        numbers();
        numbersOfTimed();
        coresThatAreThere();
        groupsThatAreThere();
        tasksThatAreThere();
        locksAndPlaces();
        counts();
        checks.finish();
    }

    private static void range(String title, Checks.Maker maker, int low, int high,
            Class<? extends RuntimeException> want, With with) {
        checks.test(title + ": " + low + " to " + high, () -> {
            for (int n = low; n <= high; n++) {
                int number = n;
                checks.allowed(maker, "with " + n, x -> with.call(x, number));
            }
            int[] wrong = {low - 1, high + 1, -1 - high, Integer.MIN_VALUE, Integer.MAX_VALUE,
                256 + low, 65536 + low, Integer.MIN_VALUE + low};
            for (int number : wrong) {
                if (number < low || number > high) {
                    checks.refused(maker, "with " + number, want, x -> with.call(x, number));
                }
            }
        });
    }

    /** A range of what is there: no number from 0 to count - 1 is refused, all others are. */
    private static void there(String title, Checks.Maker maker, int count,
            Class<? extends RuntimeException> want, With with) {
        range(title + ", " + count + " there", maker, 0, count - 1, want, with);
    }

    private static void numbers() {
        range("2 addCore, speed", TaskKernel::new, 1, 4, ARGUMENT, (x, n) -> x.addCore(n));
        range("3 setLimit, limit", TaskKernel::new, 1, 99, ARGUMENT, (x, n) -> x.setLimit(n));
        range("4 setCap, cap", TaskKernel::new, 0, 12, ARGUMENT, (x, n) -> x.setCap(n));
        range("7 addGroup, weight", TaskKernel::new, 1, 9, ARGUMENT, (x, n) -> x.addGroup(0, n));
        range("8 addPlain, weight", TaskKernel::new, 1, 9, ARGUMENT,
                (x, n) -> x.addPlain(0, n, 1));
        range("8 addPlain, units", TaskKernel::new, 1, 500, ARGUMENT,
                (x, n) -> x.addPlain(0, 1, n));
        range("29 pass, ticks", TaskKernel::new, 1, 50, ARGUMENT, (x, n) -> x.pass(n));
    }

    private static void numbersOfTimed() {
        Checks.Maker threeCores = () -> Kernels.cores(4, 4, 4);
        range("9 addTimed, weight", threeCores, 1, 9, ARGUMENT, (x, n) -> x.addTimed(0, n, 9, 9));
        range("9 addTimed, period", threeCores, 2, 60, ARGUMENT, (x, n) -> x.addTimed(0, 1, n, 1));
        range("9 addTimed, budget", threeCores, 1, 40, ARGUMENT, (x, n) -> x.addTimed(0, 1, 60, n));
        checks.test("9 addTimed, the budget 40 in each period", () -> {
            for (int i = 4; i <= 60; i++) {
                int period = i;
                checks.allowed(threeCores, "in " + i, x -> x.addTimed(0, 1, period, 40));
            }
            // 40 in 3 ticks is a share of 13334, 40 in 2 ticks one of 20000, and 12000 are promised.
            checks.refused(threeCores, "in 3", UNSUPPORTED, x -> x.addTimed(0, 1, 3, 40));
            checks.refused(threeCores, "in 2", UNSUPPORTED, x -> x.addTimed(0, 1, 2, 40));
        });
    }

    private static TaskKernel manyCores(int count) {
        TaskKernel x = Kernels.plain(new TaskKernel(), 2, 9);
        for (int i = 0; i < count; i++) {
            x.addCore(4 - i);
        }
        return x;
    }

    private static void coresThatAreThere() {
        for (int i = 0; i <= 3; i++) {
            int count = i;
            Checks.Maker maker = () -> manyCores(count);
            there("5 heat", maker, count, INDEX, (x, n) -> x.heat(n));
            there("6 pace", maker, count, INDEX, (x, n) -> x.pace(n));
            there("27 choice", maker, count, INDEX, (x, n) -> x.choice(n));
            there("28 choiceByComparing", maker, count, INDEX, (x, n) -> x.choiceByComparing(n));
        }
    }

    private static TaskKernel manyGroups(int count) {
        TaskKernel x = Kernels.cores(1);
        for (int i = 1; i < count; i++) {
            x.addGroup(i - 1, i);
        }
        return x;
    }

    private static void groupsThatAreThere() {
        int[] counts = {1, 2, 6};
        for (int count : counts) {
            Checks.Maker maker = () -> manyGroups(count);
            there("8 addPlain, group", maker, count, INDEX, (x, n) -> x.addPlain(n, 1, 1));
            there("9 addTimed, group", maker, count, INDEX, (x, n) -> x.addTimed(n, 1, 2, 1));
            there("16 doneIn", maker, count, INDEX, (x, n) -> x.doneIn(n));
            range("14 timeOfGroup, " + count + " there", maker, 1, count - 1, INDEX,
                    (x, n) -> x.timeOfGroup(n));
        }
        there("7 addGroup, parent", () -> manyGroups(1), 1, INDEX, (x, n) -> x.addGroup(n, 1));
        there("7 addGroup, parent", () -> manyGroups(5), 5, INDEX, (x, n) -> x.addGroup(n, 1));
    }

    /** Timed tasks with a deadline, so that nothing but the number can be wrong. */
    private static TaskKernel manyTasks(int count) {
        TaskKernel x = Kernels.cores(1);
        for (int i = 0; i < count; i++) {
            x.addTimed(0, 1, 60, 1);
        }
        return x;
    }

    private static void tasksThatAreThere() {
        int[] counts = {0, 1, 12};
        for (int count : counts) {
            Checks.Maker maker = () -> manyTasks(count);
            there("10 end", maker, count, NOT_THERE, (x, n) -> x.end(n));
            there("11 left", maker, count, NOT_THERE, (x, n) -> x.left(n));
            there("12 stateOf", maker, count, NOT_THERE, (x, n) -> x.stateOf(n));
            there("13 timeOf", maker, count, NOT_THERE, (x, n) -> x.timeOf(n));
            there("15 doneBy", maker, count, NOT_THERE, (x, n) -> x.doneBy(n));
            there("19 deadlineOf", maker, count, NOT_THERE, (x, n) -> x.deadlineOf(n));
            there("20 urgencyOf", maker, count, NOT_THERE, (x, n) -> x.urgencyOf(n));
            there("21 missesOf", maker, count, NOT_THERE, (x, n) -> x.missesOf(n));
            there("23 take, task", maker, count, NOT_THERE, (x, n) -> x.take(n, 0));
        }
    }

    private static TaskKernel allLocksHeld() {
        TaskKernel x = manyTasks(2);
        for (int lock = 0; lock < 4; lock++) {
            x.take(0, lock);
        }
        return x;
    }

    /** The task 0 holds the lock 3, and the next ones wait for it. */
    private static TaskKernel manyWaiters(int count) {
        TaskKernel x = manyTasks(12);
        for (int task = 0; task <= count; task++) {
            x.take(task, 3);
        }
        return x;
    }

    private static TaskKernel oneWaitsForEach() {
        TaskKernel x = manyTasks(8);
        for (int lock = 0; lock < 4; lock++) {
            x.take(lock, lock);
            x.take(4 + lock, lock);
        }
        return x;
    }

    private static void locksAndPlaces() {
        range("23 take, lock", () -> manyTasks(1), 0, 3, INDEX, (x, n) -> x.take(0, n));
        range("24 release, lock", RangesTest::allLocksHeld, 0, 3, INDEX, (x, n) -> x.release(n));
        range("25 holderOf, lock", TaskKernel::new, 0, 3, INDEX, (x, n) -> x.holderOf(n));
        range("26 waiterAt, lock", RangesTest::oneWaitsForEach, 0, 3, INDEX,
                (x, n) -> x.waiterAt(n, 0));
        int[] counts = {0, 1, 2, 11};
        for (int count : counts) {
            there("26 waiterAt, index", () -> manyWaiters(count), count, NOT_THERE,
                    (x, n) -> x.waiterAt(3, n));
        }
    }

    /** How many there can be: the last one is allowed, one more is refused. */
    private static void counts() {
        checks.test("2 addCore: 3 cores", () -> {
            checks.allowed(() -> manyCores(2), "the third", x -> x.addCore(1));
            checks.refused(() -> manyCores(3), "the fourth", STATE, x -> x.addCore(1));
        });
        checks.test("7 addGroup: 6 groups", () -> {
            checks.allowed(() -> manyGroups(5), "the sixth", x -> x.addGroup(0, 1));
            checks.refused(() -> manyGroups(6), "the seventh", STATE, x -> x.addGroup(0, 1));
        });
        checks.test("8 addPlain: 12 tasks", () -> {
            checks.allowed(() -> manyTasks(11), "the twelfth", x -> x.addPlain(0, 1, 1));
            checks.refused(() -> manyTasks(12), "the 13th", STATE, x -> x.addPlain(0, 1, 1));
        });
        checks.test("9 addTimed: 12 tasks", () -> {
            checks.allowed(() -> manyTasks(11), "the twelfth", x -> x.addTimed(0, 1, 60, 1));
            checks.refused(() -> manyTasks(12), "the 13th", STATE, x -> x.addTimed(0, 1, 60, 1));
        });
        checks.test("29 pass: to the tick 900", () -> {
            for (int tick = 850; tick <= 900; tick++) {
                passNearTheEnd(tick);
            }
        });
    }

    private static void passNearTheEnd(int tick) {
        Checks.Maker maker = () -> Kernels.inTick(tick, manyCores(1));
        if (tick < 900) {
            checks.allowed(maker, "to 900 from " + tick, x -> x.pass(900 - tick));
        }
        if (tick > 850) {
            checks.refused(maker, "to 901 from " + tick, STATE, x -> x.pass(901 - tick));
            checks.refused(maker, "50 from " + tick, STATE, x -> x.pass(50));
        }
    }
}
