import java.util.NoSuchElementException;

/**
 * "Terms", Exceptions: "A method that throws an exception changes nothing. If several exceptions of
 * a method apply, the one that is listed first is thrown." Each row of 'Throws' alone, and together
 * with each row behind it; Checks.refused looks that nothing has changed. Of the pairs that are
 * missing here, both cannot apply at once, as both speak of a thing that one of them says is not
 * there.
 */
public final class ExceptionsTest {
    private static final Class<ArithmeticException> ARITHMETIC = ArithmeticException.class;
    private static final Class<IllegalArgumentException> ARGUMENT = IllegalArgumentException.class;
    private static final Class<IllegalStateException> STATE = IllegalStateException.class;
    private static final Class<IndexOutOfBoundsException> INDEX = IndexOutOfBoundsException.class;
    private static final Class<NoSuchElementException> NOT_THERE = NoSuchElementException.class;
    private static final Class<UnsupportedOperationException> UNSUPPORTED =
            UnsupportedOperationException.class;

    private static final Checks checks = new Checks();

    public static void main(String[] args) {
        cores();
        addGroup();
        addPlain();
        addTimed();
        addTimedInThrees();
        groupsAndTasks();
        deadlines();
        take();
        locks();
        choicesAndTicks();
        checks.finish();
    }

    /** A test: each of these uses of such an object is refused with this exception. */
    private static void row(String title, Checks.Maker maker, Class<? extends RuntimeException> want,
            Checks.Use... uses) {
        checks.test(title, () -> {
            for (int i = 0; i < uses.length; i++) {
                checks.refused(maker, "call " + i, want, uses[i]);
            }
        });
    }

    private static void cores() {
        Checks.Maker threeCores = () -> Kernels.cores(1, 4, 2);
        row("2 addCore: the speed alone", () -> Kernels.cores(1, 4), ARGUMENT,
                x -> x.addCore(0), x -> x.addCore(5));
        row("2 addCore: 3 cores alone", threeCores, STATE, x -> x.addCore(1), x -> x.addCore(4));
        row("2 addCore: the speed before 3 cores", threeCores, ARGUMENT,
                x -> x.addCore(0), x -> x.addCore(5));
        row("3 setLimit: the limit", Kernels::full, ARGUMENT,
                x -> x.setLimit(0), x -> x.setLimit(100));
        row("4 setCap: the power cap", Kernels::full, ARGUMENT,
                x -> x.setCap(-1), x -> x.setCap(13));
        row("5 heat: no core yet", TaskKernel::new, INDEX, x -> x.heat(0), x -> x.heat(-1));
        row("5 heat: no such core", Kernels::full, INDEX, x -> x.heat(3), x -> x.heat(-1));
        row("6 pace: no core yet", TaskKernel::new, INDEX, x -> x.pace(0), x -> x.pace(-1));
        row("6 pace: no such core", Kernels::full, INDEX, x -> x.pace(3), x -> x.pace(-1));
    }

    private static void addGroup() {
        row("7 addGroup: no such group alone", TaskKernel::new, INDEX,
                x -> x.addGroup(1, 1), x -> x.addGroup(-1, 9));
        row("7 addGroup: the weight alone", TaskKernel::new, ARGUMENT,
                x -> x.addGroup(0, 0), x -> x.addGroup(0, 10));
        row("7 addGroup: 6 groups alone", Kernels::full, STATE,
                x -> x.addGroup(0, 1), x -> x.addGroup(5, 9));
        row("7 addGroup: no such group before the weight", TaskKernel::new, INDEX,
                x -> x.addGroup(1, 0), x -> x.addGroup(-1, 10));
        row("7 addGroup: no such group before 6 groups", Kernels::full, INDEX,
                x -> x.addGroup(6, 1), x -> x.addGroup(-1, 9));
        row("7 addGroup: the weight before 6 groups", Kernels::full, ARGUMENT,
                x -> x.addGroup(0, 0), x -> x.addGroup(5, 10));
        row("7 addGroup: no such group before the weight and 6 groups", Kernels::full, INDEX,
                x -> x.addGroup(6, 0), x -> x.addGroup(-1, 10));
    }

    private static void addPlain() {
        row("8 addPlain: no such group alone", TaskKernel::new, INDEX,
                x -> x.addPlain(1, 1, 1), x -> x.addPlain(-1, 9, 500));
        row("8 addPlain: the weight alone", TaskKernel::new, ARGUMENT,
                x -> x.addPlain(0, 0, 1), x -> x.addPlain(0, 10, 500));
        row("8 addPlain: the units alone", TaskKernel::new, ARGUMENT,
                x -> x.addPlain(0, 1, 0), x -> x.addPlain(0, 9, 501));
        row("8 addPlain: 12 tasks alone", Kernels::full, STATE,
                x -> x.addPlain(0, 1, 1), x -> x.addPlain(5, 9, 500));
        row("8 addPlain: no such group before the numbers", TaskKernel::new, INDEX,
                x -> x.addPlain(1, 0, 1), x -> x.addPlain(-1, 1, 501));
        row("8 addPlain: no such group before 12 tasks", Kernels::full, INDEX,
                x -> x.addPlain(6, 1, 1), x -> x.addPlain(-1, 9, 500));
        row("8 addPlain: the weight before 12 tasks", Kernels::full, ARGUMENT,
                x -> x.addPlain(0, 0, 1), x -> x.addPlain(5, 10, 500));
        row("8 addPlain: the units before 12 tasks", Kernels::full, ARGUMENT,
                x -> x.addPlain(0, 1, 0), x -> x.addPlain(5, 9, 501));
        row("8 addPlain: no such group before the numbers and 12 tasks", Kernels::full, INDEX,
                x -> x.addPlain(6, 0, 0), x -> x.addPlain(-1, 10, 501));
    }

    /** One core of the speed 1: a budget of the period is just admitted, one unit more is not. */
    private static TaskKernel speedOne() {
        return Kernels.cores(1);
    }

    private static void addTimed() {
        row("9 addTimed: no such group alone", ExceptionsTest::speedOne, INDEX,
                x -> x.addTimed(1, 1, 2, 2), x -> x.addTimed(-1, 9, 40, 40));
        row("9 addTimed: the weight alone", ExceptionsTest::speedOne, ARGUMENT,
                x -> x.addTimed(0, 0, 2, 2), x -> x.addTimed(0, 10, 40, 40));
        row("9 addTimed: the period alone", ExceptionsTest::speedOne, ARGUMENT,
                x -> x.addTimed(0, 1, 1, 1), x -> x.addTimed(0, 9, 61, 40));
        row("9 addTimed: the budget alone", ExceptionsTest::speedOne, ARGUMENT,
                x -> x.addTimed(0, 1, 2, 0), x -> x.addTimed(0, 9, 60, 41));
        row("9 addTimed: the admission alone", ExceptionsTest::speedOne, UNSUPPORTED,
                x -> x.addTimed(0, 1, 2, 3), x -> x.addTimed(0, 9, 39, 40));
        // 3000 and 9000 are the 12000 that are promised.
        row("9 addTimed: 12 tasks alone", Kernels::full, STATE,
                x -> x.addTimed(0, 1, 60, 1), x -> x.addTimed(5, 9, 4, 36));
        row("9 addTimed: no such group before the numbers", ExceptionsTest::speedOne, INDEX,
                x -> x.addTimed(1, 0, 2, 2), x -> x.addTimed(1, 1, 61, 1),
                x -> x.addTimed(-1, 1, 60, 0));
        row("9 addTimed: no such group before the admission", ExceptionsTest::speedOne, INDEX,
                x -> x.addTimed(1, 1, 2, 3), x -> x.addTimed(-1, 9, 39, 40));
        row("9 addTimed: no such group before 12 tasks", Kernels::full, INDEX,
                x -> x.addTimed(6, 1, 60, 1), x -> x.addTimed(-1, 9, 4, 36));
        row("9 addTimed: the numbers before the admission", ExceptionsTest::speedOne, ARGUMENT,
                x -> x.addTimed(0, 0, 2, 3), x -> x.addTimed(0, 10, 39, 40),
                x -> x.addTimed(0, 1, 1, 2), x -> x.addTimed(0, 1, 0, 2),
                x -> x.addTimed(0, 1, 2, 41));
        row("9 addTimed: the numbers before 12 tasks", Kernels::full, ARGUMENT,
                x -> x.addTimed(0, 0, 60, 1), x -> x.addTimed(5, 10, 4, 36),
                x -> x.addTimed(0, 1, 61, 1), x -> x.addTimed(0, 1, 1, 1),
                x -> x.addTimed(0, 1, 60, 0), x -> x.addTimed(0, 1, 60, 41));
        // 28/3 is a share of 9334.
        row("9 addTimed: the admission before 12 tasks", Kernels::full, UNSUPPORTED,
                x -> x.addTimed(0, 1, 3, 28), x -> x.addTimed(5, 9, 2, 40));
    }

    private static void addTimedInThrees() {
        row("9 addTimed: no such group before the numbers and the admission",
                ExceptionsTest::speedOne, INDEX,
                x -> x.addTimed(1, 0, 2, 3), x -> x.addTimed(-1, 1, 2, 41));
        row("9 addTimed: no such group before the numbers and 12 tasks", Kernels::full, INDEX,
                x -> x.addTimed(6, 0, 60, 1), x -> x.addTimed(-1, 1, 61, 1));
        row("9 addTimed: no such group before the admission and 12 tasks", Kernels::full, INDEX,
                x -> x.addTimed(6, 1, 3, 28), x -> x.addTimed(-1, 9, 2, 40));
        row("9 addTimed: the numbers before the admission and 12 tasks", Kernels::full, ARGUMENT,
                x -> x.addTimed(0, 0, 3, 28), x -> x.addTimed(0, 1, 1, 28),
                x -> x.addTimed(5, 1, 2, 41));
        row("9 addTimed: no such group before all others", Kernels::full, INDEX,
                x -> x.addTimed(6, 0, 3, 28), x -> x.addTimed(-1, 1, 2, 41),
                x -> x.addTimed(6, 10, 1, 41));
    }

    private static TaskKernel lastTaskEnded() {
        TaskKernel x = Kernels.full();
        x.end(11);
        return x;
    }

    private static void groupsAndTasks() {
        row("10 end: no task yet", TaskKernel::new, NOT_THERE, x -> x.end(0), x -> x.end(-1));
        row("10 end: no such task", Kernels::full, NOT_THERE, x -> x.end(12), x -> x.end(-1));
        row("10 end: it has ended", ExceptionsTest::lastTaskEnded, STATE, x -> x.end(11));
        row("11 left: no task yet", TaskKernel::new, NOT_THERE, x -> x.left(0), x -> x.left(-1));
        row("11 left: no such task", Kernels::full, NOT_THERE, x -> x.left(12), x -> x.left(-1));
        row("12 stateOf: no task yet", TaskKernel::new, NOT_THERE,
                x -> x.stateOf(0), x -> x.stateOf(-1));
        row("12 stateOf: no such task", Kernels::full, NOT_THERE,
                x -> x.stateOf(12), x -> x.stateOf(-1));
        row("13 timeOf: no task yet", TaskKernel::new, NOT_THERE,
                x -> x.timeOf(0), x -> x.timeOf(-1));
        row("13 timeOf: no such task", Kernels::full, NOT_THERE,
                x -> x.timeOf(12), x -> x.timeOf(-1));
        row("14 timeOfGroup: no such group", TaskKernel::new, INDEX,
                x -> x.timeOfGroup(1), x -> x.timeOfGroup(-1));
        row("14 timeOfGroup: the group 0, alone", TaskKernel::new, INDEX, x -> x.timeOfGroup(0));
        row("14 timeOfGroup: 6 groups", Kernels::full, INDEX,
                x -> x.timeOfGroup(6), x -> x.timeOfGroup(-1), x -> x.timeOfGroup(0));
        row("15 doneBy: no task yet", TaskKernel::new, NOT_THERE,
                x -> x.doneBy(0), x -> x.doneBy(-1));
        row("15 doneBy: no such task", Kernels::full, NOT_THERE,
                x -> x.doneBy(12), x -> x.doneBy(-1));
        row("16 doneIn: no such group", TaskKernel::new, INDEX,
                x -> x.doneIn(1), x -> x.doneIn(-1));
        row("16 doneIn: 6 groups", Kernels::full, INDEX, x -> x.doneIn(6), x -> x.doneIn(-1));
    }

    private static TaskKernel plainTaskEnded() {
        TaskKernel x = Kernels.full();
        x.end(3);
        return x;
    }

    private static void deadlines() {
        row("19 deadlineOf: no task yet", TaskKernel::new, NOT_THERE,
                x -> x.deadlineOf(0), x -> x.deadlineOf(-1));
        row("19 deadlineOf: no such task", Kernels::full, NOT_THERE,
                x -> x.deadlineOf(12), x -> x.deadlineOf(-1));
        row("19 deadlineOf: it is plain", Kernels::full, UNSUPPORTED,
                x -> x.deadlineOf(0), x -> x.deadlineOf(5));
        row("19 deadlineOf: it is plain and has ended", ExceptionsTest::plainTaskEnded,
                UNSUPPORTED, x -> x.deadlineOf(3));
        row("20 urgencyOf: no task yet", TaskKernel::new, NOT_THERE,
                x -> x.urgencyOf(0), x -> x.urgencyOf(-1));
        row("20 urgencyOf: no such task", Kernels::full, NOT_THERE,
                x -> x.urgencyOf(12), x -> x.urgencyOf(-1));
        row("20 urgencyOf: it has none", Kernels::full, NOT_THERE,
                x -> x.urgencyOf(1), x -> x.urgencyOf(5));
        row("20 urgencyOf: it had one and has ended", ExceptionsTest::lastTaskEnded, NOT_THERE,
                x -> x.urgencyOf(11));
        row("21 missesOf: no task yet", TaskKernel::new, NOT_THERE,
                x -> x.missesOf(0), x -> x.missesOf(-1));
        row("21 missesOf: no such task", Kernels::full, NOT_THERE,
                x -> x.missesOf(12), x -> x.missesOf(-1));
    }

    /**
     * 12 tasks; i holds the lock i, from 0 to 3, and waits for the lock before it. 11 has ended; 4
     * waits for the lock 3.
     */
    private static TaskKernel chain() {
        TaskKernel x = Kernels.plain(Kernels.cores(2), 12, 10);
        for (int i = 0; i < 4; i++) {
            x.take(i, i);
        }
        for (int i = 1; i < 5; i++) {
            x.take(i, i - 1);
        }
        x.end(11);
        return x;
    }

    /** As the chain, but nobody waits, and the lock 3 is free. */
    private static TaskKernel held() {
        TaskKernel x = Kernels.plain(Kernels.cores(2), 12, 10);
        for (int i = 0; i < 3; i++) {
            x.take(i, i);
        }
        x.end(11);
        return x;
    }

    private static TaskKernel twoWait() {
        TaskKernel x = held();
        x.take(1, 0);
        x.take(4, 0);
        return x;
    }

    private static void take() {
        row("23 take: no task yet", TaskKernel::new, NOT_THERE,
                x -> x.take(0, 0), x -> x.take(-1, 3));
        row("23 take: no such task alone", ExceptionsTest::held, NOT_THERE,
                x -> x.take(12, 0), x -> x.take(12, 3), x -> x.take(-1, 3));
        row("23 take: no such lock alone", ExceptionsTest::held, INDEX,
                x -> x.take(0, 4), x -> x.take(10, -1));
        row("23 take: it has ended, alone", ExceptionsTest::held, STATE,
                x -> x.take(11, 0), x -> x.take(11, 3));
        row("23 take: it waits, alone", ExceptionsTest::twoWait, STATE,
                x -> x.take(4, 0), x -> x.take(4, 2), x -> x.take(4, 3));
        row("23 take: it holds this lock, alone", ExceptionsTest::held, STATE,
                x -> x.take(0, 0), x -> x.take(2, 2));
        row("23 take: it waits and holds this lock", ExceptionsTest::twoWait, STATE,
                x -> x.take(1, 1));
        row("23 take: the holder waits for a lock of the task", ExceptionsTest::twoWait,
                UNSUPPORTED, x -> x.take(0, 1));
        row("23 take: or for a lock whose holder does so, and so on", ExceptionsTest::chain,
                UNSUPPORTED, x -> x.take(0, 1), x -> x.take(0, 2), x -> x.take(0, 3));
        row("23 take: no such task before no such lock", ExceptionsTest::held, NOT_THERE,
                x -> x.take(12, 4), x -> x.take(12, -1), x -> x.take(-1, 4));
        row("23 take: no such lock before the ended task", ExceptionsTest::held, INDEX,
                x -> x.take(11, 4), x -> x.take(11, -1));
        row("23 take: no such lock before the waiting task", ExceptionsTest::twoWait, INDEX,
                x -> x.take(4, 4), x -> x.take(1, -1));
        // 1 waits for 0, and 2, or 3 behind it, waits for 1.
        row("23 take: the waiting task before the tasks that wait for it", ExceptionsTest::chain,
                STATE, x -> x.take(1, 2), x -> x.take(1, 3), x -> x.take(2, 3));
    }

    private static void locks() {
        row("24 release: no such lock", ExceptionsTest::held, INDEX,
                x -> x.release(4), x -> x.release(-1));
        row("24 release: it is free", ExceptionsTest::held, STATE, x -> x.release(3));
        row("24 release: none is held yet", TaskKernel::new, STATE,
                x -> x.release(0), x -> x.release(3));
        row("25 holderOf: no such lock", ExceptionsTest::held, INDEX,
                x -> x.holderOf(4), x -> x.holderOf(-1));
        row("26 waiterAt: no such lock alone", ExceptionsTest::twoWait, INDEX,
                x -> x.waiterAt(4, 0), x -> x.waiterAt(-1, 0));
        row("26 waiterAt: no such place alone", ExceptionsTest::twoWait, NOT_THERE,
                x -> x.waiterAt(0, 2), x -> x.waiterAt(0, -1), x -> x.waiterAt(1, 0),
                x -> x.waiterAt(3, 0));
        row("26 waiterAt: no such lock before no such place", ExceptionsTest::twoWait, INDEX,
                x -> x.waiterAt(4, -1), x -> x.waiterAt(-1, 2), x -> x.waiterAt(4, 12));
    }

    private static void choicesAndTicks() {
        Checks.Maker lastTick = () -> Kernels.inTick(900, Kernels.full());
        row("27 choice: no core yet", TaskKernel::new, INDEX, x -> x.choice(0), x -> x.choice(-1));
        row("27 choice: no such core", Kernels::full, INDEX, x -> x.choice(3), x -> x.choice(-1));
        row("28 choiceByComparing: no core yet", TaskKernel::new, INDEX,
                x -> x.choiceByComparing(0), x -> x.choiceByComparing(-1));
        row("28 choiceByComparing: no such core", Kernels::full, INDEX,
                x -> x.choiceByComparing(3), x -> x.choiceByComparing(-1));
        row("29 pass: the number alone", Kernels::full, ARGUMENT,
                x -> x.pass(0), x -> x.pass(51));
        row("29 pass: greater than 900, alone", lastTick, STATE,
                x -> x.pass(1), x -> x.pass(50));
        row("29 pass: by one tick, alone", () -> Kernels.inTick(851, Kernels.full()), STATE,
                x -> x.pass(50));
        row("29 pass: the number before 900", lastTick, ARGUMENT,
                x -> x.pass(51), x -> x.pass(0), x -> x.pass(Integer.MAX_VALUE));
        row("29 pass: 51 ticks to 901", () -> Kernels.inTick(850, Kernels.full()), ARGUMENT,
                x -> x.pass(51));
        row("32 usedShare: no core, no tick", TaskKernel::new, ARITHMETIC, x -> x.usedShare());
        row("32 usedShare: no core in all ticks", () -> Kernels.inTick(900, new TaskKernel()),
                ARITHMETIC, x -> x.usedShare());
        row("32 usedShare: no tick", Kernels::full, ARITHMETIC, x -> x.usedShare());
        row("33 meanHeat: no core, no tick", TaskKernel::new, ARITHMETIC, x -> x.meanHeat());
        row("33 meanHeat: no core in all ticks", () -> Kernels.inTick(900, new TaskKernel()),
                ARITHMETIC, x -> x.meanHeat());
    }
}
