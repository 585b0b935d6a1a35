import java.util.NoSuchElementException;

/** Promises 17 to 22. */
public final class DeadlinesTest {
    private static final Class<NoSuchElementException> NOT_THERE = NoSuchElementException.class;
    private static final Class<UnsupportedOperationException> UNSUPPORTED =
            UnsupportedOperationException.class;
    private static final int[] FAR = {-1, 2, 12, Integer.MIN_VALUE, Integer.MAX_VALUE};

    private static final Checks checks = new Checks();

    public static void main(String[] args) {
        checks.test("17 admitted", DeadlinesTest::admitted);
        checks.test("18 promise", DeadlinesTest::promise);
        checks.test("19 deadlineOf", DeadlinesTest::deadlineOf);
        checks.test("19 deadlineOf after the end", DeadlinesTest::deadlineAfterEnd);
        checks.test("20 urgencyOf", DeadlinesTest::urgencyOf);
        checks.test("20 urgencies that are lent", DeadlinesTest::lent);
        checks.test("20 urgencies that are lent on", DeadlinesTest::lentOn);
        checks.test("21 missesOf", DeadlinesTest::missesOf);
        checks.test("21 a release while the task waits", DeadlinesTest::releaseWhileWaiting);
        checks.test("22 misses", DeadlinesTest::misses);
        checks.test("19 to 21 refused", DeadlinesTest::refused);
        checks.finish();
    }

    private static TaskKernel plainAndTimed() {
        TaskKernel x = new TaskKernel();
        x.addCore(4);
        x.addPlain(0, 1, 20);
        x.addTimed(0, 1, 5, 2);
        return x;
    }

    private static void admitted() {
        TaskKernel x = plainAndTimed();
        checks.due("admitted", x.admitted(), 400);
        x.addTimed(0, 1, 7, 3);
        checks.due("429 more", x.admitted(), 829);
        x.addTimed(0, 1, 60, 1);
        checks.due("17 more", x.admitted(), 846);
        x.addTimed(0, 1, 40, 1);
        checks.due("exactly 25 more", x.admitted(), 871);
        x.pass(50);
        checks.due("ticks change nothing", x.admitted(), 871);
        x.end(2);
        checks.due("without the ended one", x.admitted(), 442);
        x.end(0);
        checks.due("a plain one has no share", x.admitted(), 442);
    }

    private static void promise() {
        TaskKernel x = new TaskKernel();
        checks.due("without cores", x.promise(), 0);
        x.addCore(3);
        checks.due("one core", x.promise(), 3);
        x.addCore(4);
        checks.due("two cores", x.promise(), 7);
        x.setCap(6);
        checks.due("a cap of 6", x.promise(), 6);
        x.setCap(7);
        checks.due("a cap of 7", x.promise(), 7);
        x.addCore(4);
        checks.due("three cores, a cap of 7", x.promise(), 7);
        x.setCap(12);
        checks.due("three cores", x.promise(), 11);
        x.setCap(0);
        checks.due("a cap of 0", x.promise(), 0);
    }

    private static void deadlineOf() {
        TaskKernel x = plainAndTimed();
        checks.due("deadlineOf(1)", x.deadlineOf(1), 5);
        x.pass(5);
        checks.due("in the tick of its release, before it", x.deadlineOf(1), 5);
        checks.due("left before the release", x.left(1), 0);
        x.pass(1);
        checks.due("after it", x.deadlineOf(1), 10);
        x.addTimed(0, 1, 5, 1);
        checks.due("added in the tick 6", x.deadlineOf(2), 11);
        x.pass(4);
        checks.due("deadlineOf(2)", x.deadlineOf(2), 11);
        x.pass(2);
        checks.due("deadlineOf(1)", x.deadlineOf(1), 15);
        checks.due("deadlineOf(2)", x.deadlineOf(2), 16);
        x.pass(50);
        checks.due("deadlineOf(1) in the tick 62", x.deadlineOf(1), 65);
        checks.due("deadlineOf(2) in the tick 62", x.deadlineOf(2), 66);
        checks.thrown("deadlineOf(0)", UNSUPPORTED, () -> x.deadlineOf(0));
    }

    private static void deadlineAfterEnd() {
        TaskKernel x = plainAndTimed();
        x.pass(5);
        x.end(1);
        x.pass(20);
        checks.due("ended in the tick of its release", x.deadlineOf(1), 5);
        x.end(0);
        checks.thrown("an ended plain task", UNSUPPORTED, () -> x.deadlineOf(0));
    }

    private static void urgencyOf() {
        TaskKernel x = plainAndTimed();
        checks.thrown("a plain task", NOT_THERE, () -> x.urgencyOf(0));
        checks.due("a timed task", x.urgencyOf(1), 5);
        x.pass(1);
        checks.thrown("a timed task that is done", NOT_THERE, () -> x.urgencyOf(1));
        x.pass(5);
        checks.thrown("done again", NOT_THERE, () -> x.urgencyOf(1));
        x.setCap(0);
        x.pass(5);
        checks.due("released, and not chosen", x.urgencyOf(1), 15);
        x.end(1);
        checks.thrown("an ended task", NOT_THERE, () -> x.urgencyOf(1));
    }

    private static void lent() {
        TaskKernel x = plainAndTimed();
        x.addTimed(0, 1, 20, 4);
        x.take(0, 0);
        checks.thrown("nobody waits", NOT_THERE, () -> x.urgencyOf(0));
        x.take(2, 0);
        checks.due("lent by 2", x.urgencyOf(0), 20);
        x.take(1, 0);
        checks.due("the least, lent by 1", x.urgencyOf(0), 5);
        checks.due("a waiter keeps its own", x.urgencyOf(2), 20);
        checks.due("chosen by the urgency lent", x.choice(0), 0);
        x.release(0);
        checks.thrown("nothing is lent any more", NOT_THERE, () -> x.urgencyOf(0));
        checks.due("2 holds the lock now", x.urgencyOf(2), 5);
        checks.due("and is chosen", x.choice(0), 2);
        x.take(0, 1);
        x.take(2, 1);
        checks.due("the urgency of 2 is lent with that of 1", x.urgencyOf(0), 5);
        x.end(1);
        checks.due("without 1", x.urgencyOf(0), 20);
        checks.due("2 without 1", x.urgencyOf(2), 20);
    }

    private static void lentOn() {
        TaskKernel x = new TaskKernel();
        x.addCore(4);
        for (int i = 0; i < 5; i++) {
            x.addPlain(0, 1, 20);
        }
        x.addTimed(0, 1, 9, 4);
        // The chain is 5 -> 0 -> 4 -> 1 -> 3, up and down the numbers.
        x.take(0, 0);
        x.take(4, 1);
        x.take(1, 2);
        x.take(3, 3);
        x.take(1, 3);
        x.take(4, 2);
        x.take(0, 1);
        for (int task = 0; task < 5; task++) {
            int t = task;
            checks.thrown("no urgency of " + t, NOT_THERE, () -> x.urgencyOf(t));
        }
        x.take(5, 0);
        int[] chain = {5, 0, 4, 1, 3};
        for (int task : chain) {
            checks.due("the urgency of " + task, x.urgencyOf(task), 9);
        }
        checks.thrown("task 2 holds nothing", NOT_THERE, () -> x.urgencyOf(2));
        checks.due("the end of the chain is chosen", x.choice(0), 3);
        checks.due("in both ways", x.choiceByComparing(0), 3);
        x.release(3);
        checks.thrown("3 is out of the chain", NOT_THERE, () -> x.urgencyOf(3));
        checks.due("1 is the end of the chain", x.choice(0), 1);
        x.end(5);
        checks.thrown("nobody lends", NOT_THERE, () -> x.urgencyOf(1));
    }

    private static void missesOf() {
        TaskKernel x = new TaskKernel();
        x.addCore(1);
        x.addTimed(0, 1, 3, 2);
        x.pass(3);
        x.setCap(0);
        checks.due("missesOf(0)", x.missesOf(0), 0);
        x.pass(1);
        checks.due("no miss if nothing was left", x.missesOf(0), 0);
        x.pass(2);
        checks.due("a miss is made at the release", x.missesOf(0), 0);
        x.pass(1);
        checks.due("a miss", x.missesOf(0), 1);
        checks.due("the units left are dropped", x.left(0), 2);
        x.pass(50);
        checks.due("in the tick 57, not yet released", x.missesOf(0), 17);
        x.pass(1);
        checks.due("in the tick 58", x.missesOf(0), 18);
        x.setCap(12);
        x.pass(1);
        checks.due("left(0)", x.left(0), 1);
        x.setCap(0);
        x.pass(2);
        checks.due("a miss of a part", x.missesOf(0), 19);
        x.end(0);
        x.pass(9);
        checks.due("none after the end", x.missesOf(0), 19);
    }

    private static void releaseWhileWaiting() {
        TaskKernel x = plainAndTimed();
        x.take(0, 0);
        x.take(1, 0);
        x.pass(6);
        checks.due("doneBy(1)", x.doneBy(1), 0);
        checks.due("missesOf(1)", x.missesOf(1), 1);
        checks.due("deadlineOf(1)", x.deadlineOf(1), 10);
        checks.due("stateOf(1)", x.stateOf(1), 'w');
        checks.due("left(1)", x.left(1), 2);
    }

    private static void misses() {
        TaskKernel x = new TaskKernel();
        x.addCore(4);
        x.addTimed(0, 1, 2, 1);
        x.addTimed(0, 1, 3, 1);
        x.addPlain(0, 1, 5);
        x.setCap(0);
        checks.due("misses", x.misses(), 0);
        x.pass(7);
        checks.due("missesOf(0)", x.missesOf(0), 3);
        checks.due("missesOf(1)", x.missesOf(1), 2);
        checks.due("missesOf(2)", x.missesOf(2), 0);
        checks.due("misses", x.misses(), 5);
        x.end(0);
        checks.due("an ended task's misses count", x.misses(), 5);
        checks.due("missesOf(0) after its end", x.missesOf(0), 3);
    }

    private static void refused() {
        for (int far : FAR) {
            checks.refused(DeadlinesTest::plainAndTimed, "deadlineOf " + far, NOT_THERE,
                    x -> x.deadlineOf(far));
            checks.refused(DeadlinesTest::plainAndTimed, "urgencyOf " + far, NOT_THERE,
                    x -> x.urgencyOf(far));
            checks.refused(DeadlinesTest::plainAndTimed, "missesOf " + far, NOT_THERE,
                    x -> x.missesOf(far));
        }
        checks.refused(DeadlinesTest::plainAndTimed, "deadlineOf(0)", UNSUPPORTED,
                x -> x.deadlineOf(0));
        checks.refused(DeadlinesTest::plainAndTimed, "urgencyOf(0)", NOT_THERE, x -> x.urgencyOf(0));
    }
}
