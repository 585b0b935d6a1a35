import java.util.NoSuchElementException;

/**
 * The sentences of the promises 1 to 34 that name a boundary and are neither a range (RangesTest)
 * nor a row of 'Throws' (ExceptionsTest) nor told in "Terms" already (Terms..Test).
 */
public final class PromiseEdgesTest {
    private static final Class<ArithmeticException> ARITHMETIC = ArithmeticException.class;
    private static final Class<IllegalStateException> STATE = IllegalStateException.class;
    private static final Class<IndexOutOfBoundsException> INDEX = IndexOutOfBoundsException.class;
    private static final Class<NoSuchElementException> NOT_THERE = NoSuchElementException.class;

    private static final Checks checks = new Checks();

    public static void main(String[] args) {
        checks.test("1: without cores", PromiseEdgesTest::newWithoutCores);
        checks.test("1: without tasks", PromiseEdgesTest::newWithoutTasks);
        checks.test("1: with the group 0", PromiseEdgesTest::newWithGroupZero);
        checks.test("1: in the tick 0", PromiseEdgesTest::newInTickZero);
        checks.test("3: the limit before the call", PromiseEdgesTest::limitBefore);
        checks.test("4: the power cap before the call", PromiseEdgesTest::capBefore);
        endings();
        readings();
        locks();
        ticks();
        checks.finish();
    }

    private static void endings() {
        checks.test("10: it waits, as the only one", PromiseEdgesTest::endOnlyWaiter);
        checks.test("10: it waits, first, in the middle, last", PromiseEdgesTest::endWaiters);
        checks.test("10: it holds no lock", PromiseEdgesTest::endWithoutLock);
        checks.test("10: it holds a lock for which nobody waits", PromiseEdgesTest::endFrees);
        checks.test("10: it holds all locks", PromiseEdgesTest::endWithAllLocks);
        checks.test("10: it holds a lock and waits for another", PromiseEdgesTest::endInChain);
        checks.test("10: the units that were left, none", PromiseEdgesTest::endNoneLeft);
        checks.test("10: the units that were left, all", PromiseEdgesTest::endAllLeft);
        checks.test("10: the units are dropped", PromiseEdgesTest::endDrops);
    }

    private static void readings() {
        checks.test("12: 'e' before 'w'", PromiseEdgesTest::endedBeforeWaits);
        checks.test("12: 'w' before 'r' and 'i'", PromiseEdgesTest::waitsBeforeReady);
        checks.test("12: 'r' with one unit, 'i' with none", PromiseEdgesTest::readyOrIdle);
        checks.test("15: units done, after the end and the release", PromiseEdgesTest::doneStays);
        checks.test("16: a group without tasks", PromiseEdgesTest::doneInEmpty);
        checks.test("16: in and under a group", PromiseEdgesTest::doneInAndUnder);
        checks.test("19: the deadline at its end", PromiseEdgesTest::deadlineAtEnd);
        checks.test("19: the deadline at its end, before its release", PromiseEdgesTest::endLate);
        checks.test("21, 22: no misses", PromiseEdgesTest::noMisses);
        checks.test("22: the misses of all, ended ones included", PromiseEdgesTest::allMisses);
    }

    private static void locks() {
        checks.test("23: it would not wait, so no circle", PromiseEdgesTest::freeLockInChain);
        checks.test("23: the holder waits for another's lock", PromiseEdgesTest::waitsForOther);
        checks.test("23: the holder waited before", PromiseEdgesTest::waitedBefore);
        checks.test("23: the longest chain", PromiseEdgesTest::longestChain);
        checks.test("24: the first that waits holds it", PromiseEdgesTest::firstHolds);
        checks.test("24: the first that waited has ended", PromiseEdgesTest::firstEnded);
        checks.test("26: a place after the one before has gone", PromiseEdgesTest::placesMoveUp);
    }

    private static void ticks() {
        checks.test("27: without releases", PromiseEdgesTest::choiceWithoutReleases);
        checks.test("27, 28: asking changes nothing", PromiseEdgesTest::askingOften);
        checks.test("29: no units are done", PromiseEdgesTest::passNothing);
        checks.test("29: the sum over ticks and cores", PromiseEdgesTest::passSum);
        checks.test("31: no moves", PromiseEdgesTest::noMoves);
        checks.test("31: a move in each tick", PromiseEdgesTest::manyMoves);
        checks.test("32: the least share", PromiseEdgesTest::shareZero);
        checks.test("32: the greatest share", PromiseEdgesTest::shareOne);
        checks.test("32: the first core tick", PromiseEdgesTest::firstCoreTick);
        checks.test("32: the cores that there were in each tick", PromiseEdgesTest::coresLater);
        checks.test("32: all core ticks there can be", PromiseEdgesTest::allCoreTicks);
        checks.test("33: the mean of one, two and three cores", PromiseEdgesTest::meanHeat);
        checks.test("34: none yet", PromiseEdgesTest::soundNew);
        checks.test("34: full, in the last tick", PromiseEdgesTest::soundFull);
    }

    private static void newWithoutCores() {
        TaskKernel x = new TaskKernel();
        checks.thrown("heat(0)", INDEX, () -> x.heat(0));
        checks.thrown("pace(0)", INDEX, () -> x.pace(0));
        checks.thrown("choice(0)", INDEX, () -> x.choice(0));
        checks.thrown("choiceByComparing(0)", INDEX, () -> x.choiceByComparing(0));
        checks.thrown("usedShare()", ARITHMETIC, () -> x.usedShare());
        checks.thrown("meanHeat()", ARITHMETIC, () -> x.meanHeat());
        checks.due("promise", x.promise(), 0);
        checks.due("addCore", x.addCore(1), 0);
    }

    private static void newWithoutTasks() {
        TaskKernel x = new TaskKernel();
        checks.thrown("end(0)", NOT_THERE, () -> x.end(0));
        checks.thrown("left(0)", NOT_THERE, () -> x.left(0));
        checks.thrown("stateOf(0)", NOT_THERE, () -> x.stateOf(0));
        checks.thrown("timeOf(0)", NOT_THERE, () -> x.timeOf(0));
        checks.thrown("doneBy(0)", NOT_THERE, () -> x.doneBy(0));
        checks.thrown("deadlineOf(0)", NOT_THERE, () -> x.deadlineOf(0));
        checks.thrown("urgencyOf(0)", NOT_THERE, () -> x.urgencyOf(0));
        checks.thrown("missesOf(0)", NOT_THERE, () -> x.missesOf(0));
        checks.thrown("take(0, 0)", NOT_THERE, () -> x.take(0, 0));
        checks.due("admitted", x.admitted(), 0);
        checks.due("misses", x.misses(), 0);
        checks.due("moves", x.moves(), 0);
        checks.due("addPlain", x.addPlain(0, 1, 1), 0);
    }

    private static void newWithGroupZero() {
        TaskKernel x = new TaskKernel();
        checks.due("doneIn(0)", x.doneIn(0), 0);
        checks.thrown("timeOfGroup(0)", INDEX, () -> x.timeOfGroup(0));
        checks.thrown("doneIn(1)", INDEX, () -> x.doneIn(1));
        checks.thrown("timeOfGroup(1)", INDEX, () -> x.timeOfGroup(1));
        checks.due("addGroup", x.addGroup(0, 1), 1);
    }

    private static void newInTickZero() {
        TaskKernel x = new TaskKernel();
        checks.due("now", x.now(), 0);
        checks.due("pass(1)", x.pass(1), 0);
        checks.due("now", x.now(), 1);
        checks.due("a second object", new TaskKernel().now(), 0);
    }

    private static void limitBefore() {
        TaskKernel x = new TaskKernel();
        checks.due("the first", x.setLimit(50), 50);
        checks.due("the same", x.setLimit(1), 50);
        checks.due("the least", x.setLimit(99), 1);
        checks.thrown("a refused one", IllegalArgumentException.class, () -> x.setLimit(100));
        checks.due("the greatest", x.setLimit(99), 99);
    }

    private static void capBefore() {
        TaskKernel x = new TaskKernel();
        checks.due("the first", x.setCap(12), 12);
        checks.due("the same", x.setCap(0), 12);
        checks.due("the least", x.setCap(12), 0);
        checks.thrown("a refused one", IllegalArgumentException.class, () -> x.setCap(13));
        checks.due("the greatest", x.setCap(5), 12);
    }

    /** The task 0 holds the lock 0, and the tasks from 1 on wait for it, in their order. */
    private static TaskKernel waiting(int count) {
        TaskKernel x = Kernels.plain(Kernels.cores(1), 1 + count, 10);
        for (int task = 0; task <= count; task++) {
            x.take(task, 0);
        }
        return x;
    }

    private static void endOnlyWaiter() {
        TaskKernel x = waiting(1);
        checks.due("end(1)", x.end(1), 10);
        checks.thrown("nobody waits", NOT_THERE, () -> x.waiterAt(0, 0));
        checks.due("release(0)", x.release(0), -1);
        checks.due("stateOf(1)", x.stateOf(1), 'e');
    }

    private static void endWaiters() {
        for (int ended = 1; ended <= 3; ended++) {
            TaskKernel x = waiting(3);
            x.end(ended);
            checks.due("the place 0", x.waiterAt(0, 0), ended == 1 ? 2 : 1);
            checks.due("the place 1", x.waiterAt(0, 1), ended == 3 ? 2 : 3);
            checks.thrown("the place 2", NOT_THERE, () -> x.waiterAt(0, 2));
            checks.due("the holder", x.holderOf(0), 0);
        }
    }

    private static void endWithoutLock() {
        TaskKernel x = waiting(1);
        x.addPlain(0, 1, 10);
        checks.due("end(2)", x.end(2), 10);
        checks.due("the lock 0 stays", x.holderOf(0), 0);
        checks.due("its waiter stays", x.waiterAt(0, 0), 1);
        checks.due("the lock 1 stays free", x.holderOf(1), -1);
    }

    private static void endFrees() {
        TaskKernel x = waiting(0);
        checks.due("end(0)", x.end(0), 10);
        checks.due("the lock 0 is free", x.holderOf(0), -1);
        checks.thrown("it cannot be released", STATE, () -> x.release(0));
    }

    private static void endWithAllLocks() {
        TaskKernel x = Kernels.plain(Kernels.cores(1), 12, 10);
        for (int lock = 0; lock < 4; lock++) {
            x.take(11, lock);
        }
        for (int task = 0; task < 11; task++) {
            x.take(task, 3 - task % 4);
        }
        checks.due("end(11)", x.end(11), 10);
        for (int lock = 0; lock < 4; lock++) {
            checks.due("the first waits no more", x.holderOf(lock), 3 - lock);
            checks.due("its state", x.stateOf(3 - lock), 'r');
            checks.due("the second is the first", x.waiterAt(lock, 0), 7 - lock);
            checks.due("its state", x.stateOf(7 - lock), 'w');
        }
        checks.due("isSound", x.isSound(), true);
    }

    private static void endInChain() {
        TaskKernel x = Kernels.plain(Kernels.cores(1), 3, 10);
        x.take(0, 0);
        x.take(1, 3);
        x.take(1, 0);
        x.take(2, 3);
        checks.due("end(1)", x.end(1), 10);
        checks.thrown("nobody waits for the lock 0", NOT_THERE, () -> x.waiterAt(0, 0));
        checks.due("the lock 0 stays", x.holderOf(0), 0);
        checks.due("the lock 3 goes on", x.holderOf(3), 2);
        checks.due("the task 2 waits no more", x.stateOf(2), 'r');
        checks.due("it may wait for the lock 0", x.take(2, 0), false);
    }

    private static void endNoneLeft() {
        TaskKernel x = Kernels.plain(Kernels.cores(4), 1, 4);
        x.addTimed(0, 1, 60, 1);
        x.pass(2);
        checks.due("a plain one", x.end(0), 0);
        checks.due("a timed one", x.end(1), 0);
        checks.due("stateOf(0)", x.stateOf(0), 'e');
        checks.due("stateOf(1)", x.stateOf(1), 'e');
    }

    private static void endAllLeft() {
        TaskKernel x = Kernels.plain(Kernels.cores(4), 1, 500);
        x.addPlain(0, 1, 1);
        x.addTimed(0, 1, 60, 40);
        checks.due("the greatest number", x.end(0), 500);
        checks.due("the least number", x.end(1), 1);
        checks.due("the greatest budget", x.end(2), 40);
    }

    private static void endDrops() {
        TaskKernel x = Kernels.plain(Kernels.cores(4), 1, 500);
        x.addTimed(0, 1, 4, 2);
        x.pass(1);
        x.end(0);
        x.end(1);
        checks.due("left(0)", x.left(0), 0);
        checks.due("left(1)", x.left(1), 0);
        checks.due("pass(50)", x.pass(50), 0);
        checks.due("doneIn(0)", x.doneIn(0), 2);
        checks.due("misses", x.misses(), 0);
    }

    private static void endedBeforeWaits() {
        TaskKernel x = waiting(1);
        checks.due("before", x.stateOf(1), 'w');
        x.end(1);
        checks.due("after", x.stateOf(1), 'e');
        x.end(0);
        checks.due("of the holder", x.stateOf(0), 'e');
    }

    private static void waitsBeforeReady() {
        TaskKernel x = Kernels.plain(Kernels.cores(1), 2, 1);
        x.pass(1);
        x.take(1, 0);
        x.take(0, 0);
        checks.due("it waits, no units left", x.stateOf(0), 'w');
        x.release(0);
        x.take(1, 0);
        checks.due("it waits, a unit left", x.stateOf(1), 'w');
        checks.due("who holds the lock, no units left", x.stateOf(0), 'i');
    }

    private static void readyOrIdle() {
        TaskKernel x = Kernels.plain(Kernels.cores(1), 1, 2);
        x.addTimed(0, 1, 60, 1);
        checks.due("timed, one unit", x.stateOf(1), 'r');
        x.pass(1);
        checks.due("timed, none", x.stateOf(1), 'i');
        x.pass(1);
        checks.due("plain, one unit", x.stateOf(0), 'r');
        x.pass(1);
        checks.due("plain, none", x.stateOf(0), 'i');
    }

    private static void doneStays() {
        TaskKernel x = Kernels.cores(1);
        x.addTimed(0, 1, 2, 1);
        checks.due("none yet", x.doneBy(0), 0);
        x.pass(5);
        checks.due("over three releases", x.doneBy(0), 3);
        x.end(0);
        x.pass(5);
        checks.due("after its end", x.doneBy(0), 3);
    }

    private static void doneInEmpty() {
        TaskKernel x = Kernels.plain(Kernels.cores(4), 1, 9);
        x.addGroup(0, 1);
        x.pass(9);
        checks.due("in the group 1", x.doneIn(1), 0);
        checks.due("in the group 0", x.doneIn(0), 9);
    }

    private static void doneInAndUnder() {
        TaskKernel x = Kernels.cores(4);
        for (int group = 0; group < 6; group++) {
            x.addPlain(group, 1, 1 << group);
            if (group < 5) {
                x.addGroup(group, 1);
            }
        }
        x.pass(50);
        int[] due = {63, 62, 60, 56, 48, 32};
        for (int group = 0; group < 6; group++) {
            checks.due("in the group " + group, x.doneIn(group), due[group]);
        }
    }

    private static void deadlineAtEnd() {
        TaskKernel x = Kernels.cores(1);
        x.addTimed(0, 1, 5, 1);
        x.pass(6);
        checks.due("before its end", x.deadlineOf(0), 10);
        x.end(0);
        checks.due("at its end", x.deadlineOf(0), 10);
        x.pass(50);
        checks.due("50 ticks later", x.deadlineOf(0), 10);
    }

    private static void endLate() {
        TaskKernel x = Kernels.cores(1);
        x.addTimed(0, 1, 5, 1);
        x.addTimed(0, 1, 5, 1);
        x.pass(5);
        x.end(0);
        x.pass(1);
        x.end(1);
        x.pass(50);
        checks.due("ended in the tick 5, before the release", x.deadlineOf(0), 5);
        checks.due("ended in the tick 6, after it", x.deadlineOf(1), 10);
        TaskKernel y = Kernels.cores(1);
        y.addTimed(0, 1, 5, 1);
        y.end(0);
        checks.due("ended in the tick of its first release", y.deadlineOf(0), 5);
    }

    private static void noMisses() {
        TaskKernel x = Kernels.plain(Kernels.cores(1), 1, 500);
        x.addTimed(0, 1, 2, 1);
        x.pass(50);
        checks.due("of the timed task", x.missesOf(1), 0);
        checks.due("of the plain task", x.missesOf(0), 0);
        checks.due("of all", x.misses(), 0);
    }

    private static void allMisses() {
        TaskKernel x = Kernels.cores(1);
        x.addTimed(0, 1, 4, 1);
        x.addTimed(0, 1, 5, 1);
        x.setCap(0);
        x.pass(11);
        checks.due("missesOf(0)", x.missesOf(0), 2);
        checks.due("missesOf(1)", x.missesOf(1), 2);
        x.end(0);
        checks.due("of the ended task", x.missesOf(0), 2);
        checks.due("of all", x.misses(), 4);
        x.pass(10);
        checks.due("of the ended task, later", x.missesOf(0), 2);
        checks.due("of all, later", x.misses(), 6);
    }

    /** i holds the lock i, from 0 to 2; 1 waits for 0, and 2 waits for 1. */
    private static TaskKernel chain() {
        TaskKernel x = Kernels.plain(Kernels.cores(1), 5, 10);
        x.take(0, 0);
        x.take(1, 1);
        x.take(2, 2);
        x.take(1, 0);
        x.take(2, 1);
        return x;
    }

    private static void freeLockInChain() {
        TaskKernel x = chain();
        checks.due("the first of the chain takes a free lock", x.take(0, 3), true);
        checks.due("another waits for it", x.take(3, 3), false);
    }

    private static void waitsForOther() {
        TaskKernel x = chain();
        x.take(3, 3);
        checks.due("3 waits for 2, which waits for 1, which waits for 0", x.take(3, 2), false);
        checks.due("4, which holds nothing, waits for 3", x.take(4, 3), false);
        checks.due("isSound", x.isSound(), true);
    }

    private static void waitedBefore() {
        TaskKernel x = chain();
        checks.due("the lock 0 goes to 1", x.release(0), 1);
        checks.due("0 waits for 1, which waits no more", x.take(0, 1), false);
        TaskKernel y = chain();
        y.end(1);
        checks.due("the lock 1 goes to 2", y.holderOf(1), 2);
        checks.due("0 waits for 2, which waits no more", y.take(0, 2), false);
    }

    private static void longestChain() {
        TaskKernel x = chain();
        x.take(3, 3);
        x.take(3, 2);
        checks.due("4 waits for 3", x.take(4, 3), false);
        for (int lock = 1; lock < 4; lock++) {
            int last = lock;
            checks.thrown("0 would wait for itself, by " + lock,
                    UnsupportedOperationException.class, () -> x.take(0, last));
        }
        checks.thrown("0 holds the lock 0", STATE, () -> x.take(0, 0));
        checks.due("all locks are released in their order", x.release(0), 1);
        checks.due("then the lock 1", x.release(1), 2);
        checks.due("then the lock 2", x.release(2), 3);
        checks.due("then the lock 3", x.release(3), 4);
        checks.due("now 0 may wait for 1", x.take(0, 0), false);
    }

    private static void firstHolds() {
        TaskKernel x = waiting(11);
        for (int task = 1; task < 12; task++) {
            checks.due("release", x.release(0), task);
            checks.due("holderOf", x.holderOf(0), task);
            checks.due("its state", x.stateOf(task), 'r');
        }
        checks.due("release by the last", x.release(0), -1);
        checks.due("holderOf", x.holderOf(0), -1);
    }

    private static void firstEnded() {
        TaskKernel x = waiting(3);
        x.end(1);
        x.end(2);
        checks.due("release", x.release(0), 3);
        TaskKernel y = waiting(2);
        y.end(1);
        y.end(2);
        checks.due("release, nobody is left", y.release(0), -1);
    }

    private static void placesMoveUp() {
        TaskKernel x = waiting(3);
        x.release(0);
        checks.due("the place 0", x.waiterAt(0, 0), 2);
        checks.due("the place 1", x.waiterAt(0, 1), 3);
        checks.thrown("the place 2", NOT_THERE, () -> x.waiterAt(0, 2));
    }

    private static void choiceWithoutReleases() {
        TaskKernel x = Kernels.cores(1);
        x.addTimed(0, 1, 3, 1);
        x.pass(3);
        checks.chosen(x, "in the tick of the release", 0, -1);
        checks.due("left(0)", x.left(0), 0);
        checks.due("pass(1)", x.pass(1), 1);
        Kernels.rest(x, 3);
        checks.chosen(x, "after the release", 0, 0);
    }

    private static void askingOften() {
        TaskKernel x = Kernels.full();
        TaskKernel y = Kernels.full();
        x.pass(9);
        y.pass(9);
        for (int i = 0; i < 30; i++) {
            x.choice(i % 3);
            x.choiceByComparing(i % 3);
            x.isSound();
        }
        checks.due("the state", Picture.of(x), Picture.of(y));
        checks.due("the calls after it", Picture.ofGoingOn(x), Picture.ofGoingOn(y));
    }

    private static void passNothing() {
        checks.due("without cores", Kernels.plain(new TaskKernel(), 1, 9).pass(50), 0);
        checks.due("without tasks", Kernels.cores(4, 4, 4).pass(50), 0);
        checks.due("without both", new TaskKernel().pass(50), 0);
        TaskKernel x = Kernels.plain(Kernels.cores(4, 4, 4), 1, 9);
        x.setCap(0);
        checks.due("without power", x.pass(50), 0);
        x.setCap(12);
        x.end(0);
        checks.due("without a ready task", x.pass(50), 0);
        checks.due("doneIn(0)", x.doneIn(0), 0);
    }

    private static void passSum() {
        TaskKernel x = Kernels.plain(Kernels.cores(4, 4, 4), 3, 500);
        checks.due("one tick", x.pass(1), 12);
        checks.due("12 more, still cold", x.pass(12), 144);
        checks.due("50 hot ones", x.pass(50), 300);
        checks.due("doneIn(0)", x.doneIn(0), 456);
        TaskKernel y = Kernels.plain(Kernels.cores(4), 1, 9);
        checks.due("only what is left", y.pass(50), 9);
        checks.due("nothing more", y.pass(50), 0);
    }

    private static void noMoves() {
        TaskKernel x = Kernels.plain(Kernels.cores(4), 5, 100);
        x.pass(50);
        checks.due("one core", x.moves(), 0);
        TaskKernel y = Kernels.plain(Kernels.cores(4, 4, 4), 3, 500);
        y.pass(50);
        checks.due("three cores, each with its task", y.moves(), 0);
    }

    private static void manyMoves() {
        TaskKernel x = Kernels.plain(Kernels.cores(4, 1), 1, 500);
        x.pass(1);
        for (int moves = 1; moves <= 20; moves++) {
            x.setCap(moves % 2 == 1 ? 1 : 12);
            checks.due("units", x.pass(1), moves % 2 == 1 ? 0 : 3);
            checks.due("moves", x.moves(), moves);
        }
        x.end(0);
        checks.due("an ended task's moves count", x.moves(), 20);
    }

    private static void shareZero() {
        TaskKernel x = Kernels.cores(1, 1, 1);
        x.pass(50);
        checks.due("no task", x.usedShare(), 0.0f);
    }

    private static void shareOne() {
        TaskKernel x = Kernels.plain(Kernels.cores(1, 1, 1), 3, 500);
        x.pass(50);
        checks.due("all core ticks", x.usedShare(), 1.0f);
    }

    private static void firstCoreTick() {
        TaskKernel x = Kernels.inTick(50, Kernels.plain(new TaskKernel(), 1, 9));
        checks.thrown("ticks without cores", ARITHMETIC, () -> x.usedShare());
        x.addCore(1);
        checks.thrown("a core, no tick since", ARITHMETIC, () -> x.usedShare());
        x.pass(1);
        checks.due("one of one", x.usedShare(), 1.0f);
    }

    private static void coresLater() {
        TaskKernel x = Kernels.plain(Kernels.cores(1), 1, 500);
        x.pass(3);
        checks.due("3 of 3", x.usedShare(), 1.0f);
        x.addCore(1);
        checks.due("a core without ticks", x.usedShare(), 1.0f);
        x.pass(2);
        checks.due("5 of 7", x.usedShare(), 5.0f / 7.0f);
        x.addCore(1);
        x.pass(1);
        checks.due("6 of 10", x.usedShare(), 6.0f / 10.0f);
    }

    private static void allCoreTicks() {
        TaskKernel x = Kernels.inTick(900, Kernels.plain(Kernels.cores(1, 1, 1), 1, 500));
        checks.due("500 of 2700", x.usedShare(), 500.0f / 2700.0f);
    }

    private static void meanHeat() {
        TaskKernel x = Kernels.plain(Kernels.cores(4), 1, 500);
        checks.due("one cold core", x.meanHeat(), 0.0);
        x.pass(2);
        checks.due("one core", x.meanHeat(), 8.0);
        x.addCore(1);
        checks.due("two cores", x.meanHeat(), 4.0);
        x.addCore(1);
        checks.due("three cores", x.meanHeat(), 8.0 / 3.0);
        TaskKernel y = Kernels.plain(Kernels.cores(3, 4), 2, 500);
        y.pass(1);
        checks.due("half of 7", y.meanHeat(), 3.5);
    }

    private static void soundNew() {
        checks.due("a new object", new TaskKernel().isSound(), true);
        checks.due("no task", Kernels.cores(4, 4, 4).isSound(), true);
        checks.due("no core", Kernels.plain(new TaskKernel(), 12, 9).isSound(), true);
    }

    private static void soundFull() {
        TaskKernel x = Kernels.full();
        checks.due("in the tick 0", x.isSound(), true);
        for (int tick = 50; tick <= 900; tick += 50) {
            Kernels.inTick(tick, x);
            checks.due("in the tick " + tick, x.isSound(), true);
        }
        for (int task = 0; task < 12; task++) {
            x.end(task);
            checks.due("after the end of " + task, x.isSound(), true);
        }
    }
}
