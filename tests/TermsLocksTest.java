import java.util.NoSuchElementException;

/** "Terms", Locks and Urgency: a test for each sentence that names a boundary. */
public final class TermsLocksTest {
    private static final Class<IllegalStateException> STATE = IllegalStateException.class;
    private static final Class<IndexOutOfBoundsException> INDEX = IndexOutOfBoundsException.class;
    private static final Class<NoSuchElementException> NOT_THERE = NoSuchElementException.class;

    private static final Checks checks = new Checks();

    public static void main(String[] args) {
        test("Locks: there are the locks 0 to 3", TermsLocksTest::fourLocks);
        test("Locks: below 0 and above 3", TermsLocksTest::noOtherLocks);
        test("Locks: a lock is free", TermsLocksTest::free);
        test("Locks: or a task holds it", TermsLocksTest::held);
        test("Locks: a task can hold all of them", TermsLocksTest::holdsAll);
        test("Locks: nobody waits", TermsLocksTest::nobodyWaits);
        test("Locks: one waits", TermsLocksTest::oneWaits);
        test("Locks: 11 wait, in the order in which they began", TermsLocksTest::allWait);
        test("Locks: who waits anew is the last", TermsLocksTest::waitsAnew);
        test("Locks: a task waits for at most one lock", TermsLocksTest::waitsForOne);
        test("Urgency: its deadline, with one unit left", TermsLocksTest::oneUnitLeft);
        test("Urgency: none, with no unit left", TermsLocksTest::noUnitLeft);
        test("Urgency: none, if it is plain", TermsLocksTest::plain);
        test("Urgency: its deadline in the tick of its release", TermsLocksTest::late);
        test("Urgency: lent by nobody", TermsLocksTest::lentByNobody);
        test("Urgency: lent by one", TermsLocksTest::lentByOne);
        test("Urgency: lent by the first and by the last of many", TermsLocksTest::lentByMany);
        test("Urgency: the least is its own", TermsLocksTest::ownIsLeast);
        test("Urgency: the least is lent", TermsLocksTest::lentIsLeast);
        test("Urgency: they are equal", TermsLocksTest::equal);
        test("Urgency: lent for each lock that it holds", TermsLocksTest::allLocks);
        test("Urgency: waiters that have none", TermsLocksTest::nothingToLend);
        test("Urgency: lent along the longest chain", TermsLocksTest::longestChain);
        test("Urgency: lent on from each place in the chain", TermsLocksTest::eachPlace);
        test("Urgency: not lent any more", TermsLocksTest::noMore);
        checks.finish();
    }

    private static void test(String sentence, Runnable body) {
        checks.test("Terms, " + sentence, body);
    }

    private static TaskKernel tasks(int count) {
        return Kernels.plain(Kernels.cores(1), count, 10);
    }

    private static void fourLocks() {
        for (int lock = 0; lock < 4; lock++) {
            TaskKernel x = tasks(3);
            checks.due("take", x.take(1, lock), true);
            checks.due("take by another", x.take(2, lock), false);
            for (int other = 0; other < 4; other++) {
                checks.due("holderOf " + other, x.holderOf(other), other == lock ? 1 : -1);
            }
            checks.due("waiterAt", x.waiterAt(lock, 0), 2);
            checks.due("release", x.release(lock), 2);
            checks.due("release again", x.release(lock), -1);
        }
    }

    private static void noOtherLocks() {
        int[] wrong = {-1, 4};
        for (int lock : wrong) {
            checks.refused(() -> tasks(3), "take of " + lock, INDEX, x -> x.take(1, lock));
            checks.refused(() -> tasks(3), "release of " + lock, INDEX, x -> x.release(lock));
            checks.refused(() -> tasks(3), "holderOf " + lock, INDEX, x -> x.holderOf(lock));
            checks.refused(() -> tasks(3), "waiterAt " + lock, INDEX, x -> x.waiterAt(lock, 0));
        }
    }

    private static void free() {
        TaskKernel x = new TaskKernel();
        for (int i = 0; i < 4; i++) {
            int lock = i;
            checks.due("holderOf", x.holderOf(lock), -1);
            checks.thrown("waiterAt", NOT_THERE, () -> x.waiterAt(lock, 0));
            checks.thrown("release", STATE, () -> x.release(lock));
        }
    }

    private static void held() {
        TaskKernel x = tasks(2);
        checks.due("taken by the task 0", x.take(0, 0), true);
        checks.due("holderOf(0)", x.holderOf(0), 0);
        checks.due("stateOf(0)", x.stateOf(0), 'r');
        checks.due("release(0)", x.release(0), -1);
        checks.due("holderOf(0)", x.holderOf(0), -1);
        checks.thrown("release(0) again", STATE, () -> x.release(0));
        checks.due("taken by another", x.take(1, 0), true);
        checks.due("holderOf(0)", x.holderOf(0), 1);
    }

    private static void holdsAll() {
        TaskKernel x = tasks(1);
        for (int lock = 0; lock < 4; lock++) {
            checks.due("take", x.take(0, lock), true);
        }
        for (int lock = 0; lock < 4; lock++) {
            checks.due("holderOf", x.holderOf(lock), 0);
        }
        checks.due("stateOf(0)", x.stateOf(0), 'r');
    }

    private static void nobodyWaits() {
        TaskKernel x = tasks(2);
        x.take(0, 0);
        checks.thrown("waiterAt(0, 0)", NOT_THERE, () -> x.waiterAt(0, 0));
        checks.thrown("waiterAt(0, -1)", NOT_THERE, () -> x.waiterAt(0, -1));
        checks.due("release(0)", x.release(0), -1);
    }

    private static void oneWaits() {
        TaskKernel x = tasks(2);
        x.take(0, 0);
        checks.due("take(1, 0)", x.take(1, 0), false);
        checks.due("waiterAt(0, 0)", x.waiterAt(0, 0), 1);
        checks.thrown("waiterAt(0, 1)", NOT_THERE, () -> x.waiterAt(0, 1));
        checks.due("stateOf(1)", x.stateOf(1), 'w');
        checks.due("release(0)", x.release(0), 1);
        checks.due("stateOf(1)", x.stateOf(1), 'r');
        checks.thrown("nobody waits any more", NOT_THERE, () -> x.waiterAt(0, 0));
    }

    private static void allWait() {
        TaskKernel x = tasks(12);
        int[] order = {7, 5, 0, 11, 3, 1, 10, 2, 9, 4, 8, 6};
        for (int i = 0; i < 12; i++) {
            checks.due("take by " + order[i], x.take(order[i], 3), i == 0);
        }
        for (int i = 1; i < 12; i++) {
            checks.due("the place " + (i - 1), x.waiterAt(3, i - 1), order[i]);
        }
        checks.thrown("the place 11", NOT_THERE, () -> x.waiterAt(3, 11));
        for (int i = 1; i < 12; i++) {
            checks.due("release", x.release(3), order[i]);
        }
        checks.due("the last release", x.release(3), -1);
    }

    private static void waitsAnew() {
        TaskKernel x = tasks(4);
        x.take(0, 1);
        x.take(1, 1);
        x.take(2, 1);
        x.take(3, 1);
        checks.due("release", x.release(1), 1);
        checks.due("the task 0 waits", x.take(0, 1), false);
        checks.due("the place 0", x.waiterAt(1, 0), 2);
        checks.due("the place 1", x.waiterAt(1, 1), 3);
        checks.due("the place 2", x.waiterAt(1, 2), 0);
    }

    private static void waitsForOne() {
        TaskKernel x = tasks(3);
        x.take(0, 0);
        x.take(1, 1);
        x.take(2, 0);
        checks.thrown("for a second one", STATE, () -> x.take(2, 1));
        checks.thrown("for the same one", STATE, () -> x.take(2, 0));
        checks.thrown("nor takes it a free one", STATE, () -> x.take(2, 2));
        checks.thrown("nobody waits for the lock 1", NOT_THERE, () -> x.waiterAt(1, 0));
        checks.due("the lock 2 is free", x.holderOf(2), -1);
        x.release(0);
        checks.due("after that, it waits for another", x.take(2, 1), false);
        checks.due("and holds the first", x.holderOf(0), 2);
    }

    private static void oneUnitLeft() {
        TaskKernel x = Kernels.cores(1);
        x.addTimed(0, 1, 5, 2);
        checks.due("with 2 left", x.urgencyOf(0), 5);
        x.pass(1);
        checks.due("left(0)", x.left(0), 1);
        checks.due("with 1 left", x.urgencyOf(0), 5);
    }

    private static void noUnitLeft() {
        TaskKernel x = Kernels.cores(2);
        x.addTimed(0, 1, 5, 2);
        x.pass(1);
        checks.thrown("after its units", NOT_THERE, () -> x.urgencyOf(0));
        x.pass(4);
        checks.thrown("in the tick 5, not yet released", NOT_THERE, () -> x.urgencyOf(0));
        x.pass(1);
        checks.thrown("released and done in one tick", NOT_THERE, () -> x.urgencyOf(0));
        Kernels.rest(x, 5);
        checks.due("released and not chosen", x.urgencyOf(0), 15);
        x.end(0);
        checks.thrown("ended", NOT_THERE, () -> x.urgencyOf(0));
    }

    private static void plain() {
        TaskKernel x = tasks(1);
        checks.thrown("with units left", NOT_THERE, () -> x.urgencyOf(0));
        x.take(0, 0);
        checks.thrown("with a lock", NOT_THERE, () -> x.urgencyOf(0));
    }

    private static void late() {
        TaskKernel x = Kernels.cores(1);
        x.addTimed(0, 1, 5, 2);
        Kernels.rest(x, 5);
        checks.due("the present tick", x.urgencyOf(0), 5);
        Kernels.rest(x, 1);
        checks.due("after the release", x.urgencyOf(0), 10);
    }

    /** The plain tasks 0 to 7, and the timed 8 to 11 with the deadlines 40, 20, 30 and 20. */
    private static TaskKernel mixed() {
        TaskKernel x = tasks(8);
        x.addTimed(0, 1, 40, 2);
        x.addTimed(0, 1, 20, 2);
        x.addTimed(0, 1, 30, 2);
        x.addTimed(0, 1, 20, 2);
        return x;
    }

    private static void lentByNobody() {
        TaskKernel x = mixed();
        x.take(0, 0);
        x.take(8, 1);
        checks.thrown("a plain holder", NOT_THERE, () -> x.urgencyOf(0));
        checks.due("a timed holder", x.urgencyOf(8), 40);
    }

    private static void lentByOne() {
        TaskKernel x = mixed();
        x.take(0, 3);
        x.take(10, 3);
        checks.due("a plain holder", x.urgencyOf(0), 30);
        checks.due("the lender keeps it", x.urgencyOf(10), 30);
        checks.thrown("no other task", NOT_THERE, () -> x.urgencyOf(1));
    }

    private static void lentByMany() {
        TaskKernel y = mixed();
        int[] last = {0, 8, 1, 10, 2, 9};
        for (int task : last) {
            y.take(task, 0);
        }
        checks.due("the last of 5", y.urgencyOf(0), 20);
        TaskKernel x = mixed();
        int[] first = {0, 9, 1, 10, 2, 8};
        for (int task : first) {
            x.take(task, 0);
        }
        checks.due("the first of 5", x.urgencyOf(0), 20);
        x.end(9);
        checks.due("the middle one of 4", x.urgencyOf(0), 30);
        x.end(10);
        checks.due("the last of 3", x.urgencyOf(0), 40);
    }

    private static void ownIsLeast() {
        TaskKernel x = mixed();
        x.take(9, 0);
        x.take(10, 0);
        checks.due("20 of its own, 30 lent", x.urgencyOf(9), 20);
        checks.due("the lender", x.urgencyOf(10), 30);
    }

    private static void lentIsLeast() {
        TaskKernel x = mixed();
        x.take(10, 0);
        x.take(9, 0);
        checks.due("30 of its own, 20 lent", x.urgencyOf(10), 20);
        checks.due("the lender", x.urgencyOf(9), 20);
        checks.due("the deadline stays its own", x.deadlineOf(10), 30);
    }

    private static void equal() {
        TaskKernel x = mixed();
        x.take(11, 0);
        x.take(9, 0);
        checks.due("20 of its own, 20 lent", x.urgencyOf(11), 20);
        checks.due("20 of its own, 20 lent", x.urgencyOf(9), 20);
        checks.chosen(x, "the holder alone is ready", 0, 11);
    }

    private static void allLocks() {
        for (int lock = 0; lock < 4; lock++) {
            TaskKernel x = mixed();
            for (int each = 0; each < 4; each++) {
                x.take(0, each);
                x.take(each == lock ? 9 : 1 + each, each);
            }
            checks.due("lent for the lock " + lock, x.urgencyOf(0), 20);
        }
        TaskKernel x = mixed();
        for (int lock = 0; lock < 4; lock++) {
            x.take(0, lock);
            x.take(8 + lock, lock);
        }
        checks.due("the least of four locks", x.urgencyOf(0), 20);
        x.release(1);
        checks.due("without the lock 1", x.urgencyOf(0), 20);
        x.release(3);
        checks.due("without the lock 3", x.urgencyOf(0), 30);
    }

    private static void nothingToLend() {
        TaskKernel x = mixed();
        x.take(0, 0);
        x.take(1, 0);
        checks.thrown("a plain waiter", NOT_THERE, () -> x.urgencyOf(0));
        TaskKernel y = Kernels.plain(Kernels.cores(2), 1, 9);
        y.addTimed(0, 1, 4, 2);
        y.pass(1);
        y.take(0, 0);
        y.take(1, 0);
        checks.thrown("a timed waiter with no units left", NOT_THERE, () -> y.urgencyOf(0));
        y.setCap(0);
        y.pass(4);
        checks.due("after its release", y.urgencyOf(0), 8);
    }

    /** The task 4 - i holds the lock i, and the one before it waits for it: 4 locks, 5 tasks. */
    private static TaskKernel chainOfFive() {
        TaskKernel x = mixed();
        for (int lock = 0; lock < 4; lock++) {
            x.take(4 - lock, lock);
        }
        for (int lock = 0; lock < 4; lock++) {
            x.take(3 - lock, lock);
        }
        return x;
    }

    private static void longestChain() {
        TaskKernel x = Kernels.cores(1);
        x.addTimed(0, 1, 50, 2);
        Kernels.plain(x, 4, 10);
        for (int task = 1; task < 5; task++) {
            x.take(task, task - 1);
        }
        for (int task = 4; task > 0; task--) {
            x.take(task - 1, task - 1);
        }
        for (int task = 0; task < 5; task++) {
            checks.due("the urgency of " + task, x.urgencyOf(task), 50);
        }
        checks.chosen(x, "its end alone is ready", 0, 4);
    }

    private static void eachPlace() {
        for (int lock = 0; lock < 4; lock++) {
            TaskKernel x = chainOfFive();
            for (int task = 0; task < 5; task++) {
                int plain = task;
                checks.thrown("no urgency of " + plain, NOT_THERE, () -> x.urgencyOf(plain));
            }
            x.take(10, lock);
            for (int task = 0; task < 5; task++) {
                int plain = task;
                if (task >= 4 - lock) {
                    checks.due("lent to " + task, x.urgencyOf(task), 30);
                } else {
                    checks.thrown("not lent to " + task, NOT_THERE, () -> x.urgencyOf(plain));
                }
            }
        }
    }

    private static void noMore() {
        TaskKernel x = mixed();
        x.take(0, 0);
        x.take(1, 1);
        x.take(0, 1);
        x.take(9, 0);
        checks.due("lent on", x.urgencyOf(1), 20);
        x.release(1);
        checks.thrown("not after the release of the lock 1", NOT_THERE, () -> x.urgencyOf(1));
        checks.due("the task 0 has it still", x.urgencyOf(0), 20);
        x.end(9);
        checks.thrown("not after the end of the lender", NOT_THERE, () -> x.urgencyOf(0));
    }
}
