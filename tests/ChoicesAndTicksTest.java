/** Promises 27 to 34. */
public final class ChoicesAndTicksTest {
    private static final Class<ArithmeticException> ARITHMETIC = ArithmeticException.class;
    private static final Class<IllegalArgumentException> ARGUMENT = IllegalArgumentException.class;
    private static final Class<IllegalStateException> STATE = IllegalStateException.class;
    private static final Class<IndexOutOfBoundsException> INDEX = IndexOutOfBoundsException.class;

    private static final Checks checks = new Checks();

    public static void main(String[] args) {
        checks.test("27, 28 nobody to choose", ChoicesAndTicksTest::nobody);
        checks.test("27, 28 by virtual time", ChoicesAndTicksTest::byTime);
        checks.test("27, 28 ties", ChoicesAndTicksTest::ties);
        checks.test("27, 28 down a deep tree", ChoicesAndTicksTest::deepTree);
        checks.test("27, 28 by urgency", ChoicesAndTicksTest::byUrgency);
        checks.test("27, 28 several cores", ChoicesAndTicksTest::severalCores);
        checks.test("27, 28 without releases", ChoicesAndTicksTest::withoutReleases);
        checks.test("27, 28 refused", ChoicesAndTicksTest::choiceRefused);
        checks.test("29 pass", ChoicesAndTicksTest::pass);
        checks.test("29 weights share a core", ChoicesAndTicksTest::weights);
        checks.test("29 releases come before choices", ChoicesAndTicksTest::releasesFirst);
        checks.test("29 pass refused", ChoicesAndTicksTest::passRefused);
        checks.test("30 now", ChoicesAndTicksTest::now);
        checks.test("31 moves", ChoicesAndTicksTest::moves);
        checks.test("31 a move at the pace 1", ChoicesAndTicksTest::movesAtPaceOne);
        checks.test("32 usedShare", ChoicesAndTicksTest::usedShare);
        checks.test("33 meanHeat", ChoicesAndTicksTest::meanHeat);
        checks.test("34 isSound", ChoicesAndTicksTest::isSound);
        checks.finish();
    }

    private static void chosen(TaskKernel x, String what, int core, int task) {
        checks.chosen(x, what, core, task);
    }

    private static TaskKernel oneCore(int speed) {
        TaskKernel x = new TaskKernel();
        x.addCore(speed);
        return x;
    }

    private static void nobody() {
        TaskKernel x = oneCore(1);
        chosen(x, "no task", 0, -1);
        x.addGroup(0, 1);
        chosen(x, "an empty group", 0, -1);
        x.addPlain(1, 1, 1);
        chosen(x, "one task", 0, 0);
        x.pass(1);
        chosen(x, "it is done", 0, -1);
        x.addTimed(1, 1, 10, 1);
        x.take(0, 0);
        x.take(1, 0);
        chosen(x, "one waits, one is idle", 0, -1);
        x.release(0);
        chosen(x, "it waits no more", 0, 1);
        x.end(1);
        chosen(x, "it has ended", 0, -1);
    }

    private static void byTime() {
        TaskKernel x = oneCore(1);
        x.addPlain(0, 2, 50);
        x.addPlain(0, 1, 50);
        chosen(x, "both at 0", 0, 0);
        x.pass(1);
        chosen(x, "0 at 1260", 0, 1);
        x.pass(1);
        chosen(x, "1 at 2520", 0, 0);
        x.pass(1);
        chosen(x, "both at 2520", 0, 0);
        x.pass(1);
        chosen(x, "0 at 3780", 0, 1);
        x.addPlain(0, 9, 1);
        chosen(x, "a new one at 2520 comes after 1", 0, 1);
        x.pass(1);
        chosen(x, "the new one is the least", 0, 2);
    }

    private static void ties() {
        TaskKernel x = oneCore(1);
        x.addPlain(0, 1, 9);
        x.addGroup(0, 1);
        x.addGroup(0, 1);
        x.addPlain(2, 1, 9);
        x.addPlain(1, 1, 9);
        x.addPlain(1, 1, 9);
        chosen(x, "groups first, the group 1 first, the task 2 first", 0, 2);
        x.end(2);
        chosen(x, "then the task 3", 0, 3);
        x.end(3);
        chosen(x, "then the group 2", 0, 1);
        x.end(1);
        chosen(x, "then the task of the group 0", 0, 0);
    }

    private static void deepTree() {
        TaskKernel x = oneCore(2);
        // 1 under 0, 2 under 1, 3 under 2, 4 under 3, 5 under 1.
        x.addGroup(0, 9);
        x.addGroup(1, 1);
        x.addGroup(2, 1);
        x.addGroup(3, 1);
        x.addGroup(1, 3);
        x.addPlain(4, 1, 9);
        x.addPlain(0, 1, 9);
        x.addPlain(5, 1, 9);
        x.addPlain(2, 5, 9);
        chosen(x, "down to the group 4", 0, 0);
        x.pass(1);
        // Times: group 1 560, group 2 5040, 3 5040, 4 5040, task 0 5040.
        checks.due("timeOfGroup(1)", x.timeOfGroup(1), 560L);
        checks.due("timeOfGroup(2)", x.timeOfGroup(2), 5040L);
        checks.due("timeOfGroup(3)", x.timeOfGroup(3), 5040L);
        checks.due("timeOfGroup(4)", x.timeOfGroup(4), 5040L);
        chosen(x, "the task of the group 0 is the least", 0, 1);
        x.pass(1);
        checks.due("timeOf(1)", x.timeOf(1), 5040L);
        chosen(x, "group 1 by 560, then group 5 by 0", 0, 2);
        x.pass(1);
        checks.due("timeOfGroup(1)", x.timeOfGroup(1), 1120L);
        checks.due("timeOfGroup(5)", x.timeOfGroup(5), 1680L);
        chosen(x, "group 5 by 1680", 0, 2);
        x.end(2);
        chosen(x, "an empty group is passed by: group 2, then the task 3 by 0", 0, 3);
        x.pass(3);
        checks.due("doneBy(3)", x.doneBy(3), 6);
        checks.due("timeOf(3)", x.timeOf(3), 3024L);
        checks.due("timeOfGroup(1)", x.timeOfGroup(1), 2800L);
        chosen(x, "the task 3 by 3024", 0, 3);
        x.pass(2);
        checks.due("the last unit", x.left(3), 0);
        checks.due("timeOf(3)", x.timeOf(3), 4536L);
        checks.due("timeOfGroup(1)", x.timeOfGroup(1), 3640L);
        chosen(x, "group 1, the task 3 is done", 0, 0);
        x.pass(3);
        checks.due("timeOfGroup(1)", x.timeOfGroup(1), 5320L);
        chosen(x, "the task 1 by 5040", 0, 1);
    }

    private static void byUrgency() {
        TaskKernel x = oneCore(4);
        x.addPlain(0, 1, 100);
        x.addTimed(0, 1, 30, 8);
        x.addTimed(0, 1, 10, 4);
        x.addTimed(0, 1, 10, 4);
        chosen(x, "the least urgency, the lowest number", 0, 2);
        x.pass(1);
        chosen(x, "then the other one", 0, 3);
        x.pass(1);
        chosen(x, "then the next urgency", 0, 1);
        x.pass(2);
        chosen(x, "then the plain task", 0, 0);
        x.take(0, 0);
        x.pass(6);
        x.take(1, 0);
        chosen(x, "0 holds, 1 is idle and lends nothing", 0, 0);
        x.setCap(0);
        x.pass(1);
        x.setCap(12);
        chosen(x, "2 and 3 are released", 0, 2);
        x.take(3, 0);
        checks.due("urgencyOf(0)", x.urgencyOf(0), 20);
        chosen(x, "0 with the lent urgency comes before 2", 0, 0);
        x.end(3);
        chosen(x, "without it, it does not", 0, 2);
    }

    private static void severalCores() {
        TaskKernel x = new TaskKernel();
        x.addCore(2);
        x.addCore(4);
        x.addCore(1);
        x.addGroup(0, 1);
        x.addPlain(1, 1, 50);
        x.addTimed(0, 1, 10, 3);
        x.addPlain(1, 1, 50);
        chosen(x, "the urgent one", 0, 1);
        chosen(x, "no urgency is left: group 1", 1, 0);
        chosen(x, "its other task", 2, 2);
        x.end(2);
        chosen(x, "no task is left", 2, -1);
        x.addPlain(0, 1, 1);
        chosen(x, "groups without such a task are passed by", 2, 3);
        x.setCap(5);
        chosen(x, "a cap of 5", 0, 1);
        chosen(x, "2 and 4 are more", 1, -1);
        chosen(x, "2 and 1 are not, and group 1 is first", 2, 0);
        x.setCap(6);
        chosen(x, "2 and 4 are 6", 1, 0);
        chosen(x, "and 1 is too much", 2, -1);
        x.setCap(1);
        chosen(x, "a cap of 1", 0, -1);
        chosen(x, "a cap of 1", 1, -1);
        chosen(x, "a cap of 1", 2, 1);
    }

    private static void withoutReleases() {
        TaskKernel x = oneCore(4);
        x.addPlain(0, 1, 90);
        x.addTimed(0, 1, 3, 4);
        x.pass(3);
        checks.due("left(1) in the tick of its release", x.left(1), 0);
        chosen(x, "a choice does not release", 0, 0);
        checks.due("left(1)", x.left(1), 0);
        checks.due("now", x.now(), 3);
        x.pass(1);
        checks.due("a tick does", x.doneBy(1), 8);
        checks.due("doneBy(0)", x.doneBy(0), 8);
        String before = Picture.of(x);
        chosen(x, "a choice", 0, 0);
        checks.due("a choice changes nothing", Picture.of(x), before);
    }

    private static TaskKernel twoCores() {
        TaskKernel x = oneCore(1);
        x.addCore(3);
        x.addPlain(0, 1, 30);
        return x;
    }

    private static void choiceRefused() {
        int[] wrong = {-1, 2, 3, Integer.MIN_VALUE, Integer.MAX_VALUE};
        for (int core : wrong) {
            checks.refused(ChoicesAndTicksTest::twoCores, "choice " + core, INDEX,
                    x -> x.choice(core));
            checks.refused(ChoicesAndTicksTest::twoCores, "choiceByComparing " + core, INDEX,
                    x -> x.choiceByComparing(core));
        }
        checks.refused(TaskKernel::new, "choice(0)", INDEX, x -> x.choice(0));
        checks.refused(TaskKernel::new, "choiceByComparing(0)", INDEX, x -> x.choiceByComparing(0));
    }

    private static void pass() {
        TaskKernel x = oneCore(3);
        checks.due("pass(1) without tasks", x.pass(1), 0);
        x.addPlain(0, 1, 10);
        checks.due("pass(1)", x.pass(1), 3);
        checks.due("pass(3), 1 in the last", x.pass(3), 7);
        checks.due("pass(50)", x.pass(50), 0);
        x.addPlain(0, 1, 500);
        checks.due("pass(50), hot", x.pass(50), 17 * 3 + 33 * 2);
        checks.due("heat(0)", x.heat(0), 17 * 3 + 33 * 2);
        checks.due("without cores", new TaskKernel().pass(50), 0);
    }

    private static void weights() {
        TaskKernel x = oneCore(1);
        x.setLimit(99);
        x.addGroup(0, 2);
        x.addGroup(0, 1);
        x.addPlain(1, 1, 500);
        x.addPlain(1, 3, 500);
        x.addPlain(2, 5, 500);
        x.pass(50);
        x.pass(10);
        checks.due("doneIn(1)", x.doneIn(1), 40);
        checks.due("doneIn(2)", x.doneIn(2), 20);
        checks.due("doneBy(0)", x.doneBy(0), 10);
        checks.due("doneBy(1)", x.doneBy(1), 30);
        checks.due("doneIn(0)", x.doneIn(0), 60);
    }

    private static void releasesFirst() {
        TaskKernel x = oneCore(2);
        x.addPlain(0, 1, 100);
        x.addTimed(0, 1, 4, 2);
        checks.due("pass(5)", x.pass(5), 10);
        checks.due("released and done in the tick 4", x.doneBy(1), 4);
        checks.due("doneBy(0)", x.doneBy(0), 6);
        x.pass(3);
        x.addTimed(0, 1, 8, 2);
        checks.due("pass(1)", x.pass(1), 2);
        checks.due("the release of 1 comes before its choice", x.doneBy(1), 6);
        checks.due("the new one is not released twice", x.missesOf(2), 0);
        checks.due("left(2)", x.left(2), 2);
        checks.due("deadlineOf(2)", x.deadlineOf(2), 16);
    }

    private static void passRefused() {
        int[] wrong = {0, 51, -1, Integer.MIN_VALUE, Integer.MAX_VALUE};
        for (int ticks : wrong) {
            checks.refused(ChoicesAndTicksTest::twoCores, "pass " + ticks, ARGUMENT,
                    x -> x.pass(ticks));
            checks.refused(ChoicesAndTicksTest::inTheLastTick, "in the tick 900, pass " + ticks,
                    ARGUMENT, x -> x.pass(ticks));
        }
        checks.refused(ChoicesAndTicksTest::inTheLastTick, "in the tick 900, pass(1)", STATE,
                x -> x.pass(1));
        checks.refused(ChoicesAndTicksTest::inTheLastTick, "in the tick 900, pass(50)", STATE,
                x -> x.pass(50));
        checks.refused(ChoicesAndTicksTest::nearTheLastTick, "in the tick 860, pass(41)", STATE,
                x -> x.pass(41));
        TaskKernel x = nearTheLastTick();
        x.pass(40);
        checks.due("now", x.now(), 900);
        checks.due("tasks can still be added", x.addPlain(0, 1, 1), 1);
    }

    private static TaskKernel nearTheLastTick() {
        TaskKernel x = twoCores();
        for (int i = 0; i < 17; i++) {
            x.pass(50);
        }
        x.pass(10);
        return x;
    }

    private static TaskKernel inTheLastTick() {
        TaskKernel x = nearTheLastTick();
        x.pass(40);
        return x;
    }

    private static void now() {
        TaskKernel x = twoCores();
        checks.due("now", x.now(), 0);
        x.pass(1);
        checks.due("now", x.now(), 1);
        x.pass(49);
        checks.due("now", x.now(), 50);
        x.choice(0);
        x.addPlain(0, 1, 1);
        checks.due("other calls do not change it", x.now(), 50);
        checks.due("now", inTheLastTick().now(), 900);
    }

    private static void moves() {
        TaskKernel x = oneCore(3);
        x.addCore(2);
        x.addPlain(0, 1, 30);
        x.addPlain(0, 1, 4);
        checks.due("pass(1)", x.pass(1), 5);
        checks.due("a first choice is no move", x.moves(), 0);
        // Times: 0 at 7560, 1 at 5040. The task 1 goes to the core 0, the task 0 to the core 1.
        checks.due("3 less 1, 2 less 1", x.pass(1), 3);
        checks.due("both moved", x.moves(), 2);
        checks.due("left(1)", x.left(1), 0);
        checks.due("doneBy(0)", x.doneBy(0), 4);
        checks.due("back to the core 0", x.pass(1), 2);
        checks.due("one moved", x.moves(), 3);
        checks.due("stays", x.pass(2), 6);
        checks.due("none moved", x.moves(), 3);
        x.addTimed(0, 1, 5, 1);
        checks.due("the task 0 moves to the core 1", x.pass(1), 2);
        checks.due("one moved", x.moves(), 4);
        x.setCap(0);
        x.pass(1);
        x.setCap(12);
        checks.due("and back after a rest: the last time counts", x.pass(1), 2);
        checks.due("one moved", x.moves(), 5);
        x.choice(0);
        x.choiceByComparing(1);
        checks.due("choices are no moves", x.moves(), 5);
    }

    private static void movesAtPaceOne() {
        TaskKernel x = oneCore(1);
        x.addCore(1);
        x.addPlain(0, 1, 30);
        checks.due("pass(1)", x.pass(1), 1);
        x.addTimed(0, 1, 10, 1);
        checks.due("1 less 1 is nothing", x.pass(1), 1);
        checks.due("doneBy(0)", x.doneBy(0), 1);
        checks.due("timeOf(0)", x.timeOf(0), 2520L);
        checks.due("moves", x.moves(), 1);
        checks.due("the core was used", x.usedShare(), 3.0f / 4.0f);
        checks.due("and is warmer", x.heat(1), 1);
        checks.due("back again", x.pass(1), 0);
        checks.due("moves", x.moves(), 2);
        checks.due("pass(1)", x.pass(1), 1);
        checks.due("doneBy(0)", x.doneBy(0), 2);
    }

    private static void usedShare() {
        TaskKernel x = new TaskKernel();
        checks.refused(TaskKernel::new, "no ticks", ARITHMETIC, k -> k.usedShare());
        x.pass(5);
        checks.thrown("ticks without cores", ARITHMETIC, () -> x.usedShare());
        x.addCore(1);
        checks.thrown("a core without ticks", ARITHMETIC, () -> x.usedShare());
        x.pass(1);
        checks.due("a tick without work", x.usedShare(), 0.0f);
        x.addPlain(0, 1, 1);
        x.pass(2);
        checks.due("1 of 3", x.usedShare(), 1.0f / 3.0f);
        x.addCore(1);
        x.addPlain(0, 1, 9);
        x.addPlain(0, 1, 9);
        x.pass(2);
        checks.due("5 of 7", x.usedShare(), 5.0f / 7.0f);
        x.setCap(1);
        x.pass(2);
        checks.due("7 of 11", x.usedShare(), 7.0f / 11.0f);
        checks.refused(ChoicesAndTicksTest::twoCores, "cores, no ticks", ARITHMETIC,
                k -> k.usedShare());
    }

    private static void meanHeat() {
        checks.refused(TaskKernel::new, "no cores", ARITHMETIC, k -> k.meanHeat());
        TaskKernel x = oneCore(4);
        checks.due("a cold core", x.meanHeat(), 0.0);
        x.addPlain(0, 1, 8);
        x.pass(1);
        checks.due("4", x.meanHeat(), 4.0);
        x.addCore(1);
        checks.due("4 by 2", x.meanHeat(), 2.0);
        x.addCore(1);
        checks.due("4 by 3", x.meanHeat(), 4.0 / 3.0);
        x.addPlain(0, 1, 8);
        x.pass(1);
        checks.due("4 and 4 less 3, or 8 and 1", x.meanHeat(), 9.0 / 3.0);
        TaskKernel y = new TaskKernel();
        y.pass(1);
        checks.thrown("no cores, but ticks", ARITHMETIC, () -> y.meanHeat());
    }

    private static void isSound() {
        TaskKernel x = new TaskKernel();
        checks.due("a new object", x.isSound(), true);
        x.addCore(4);
        x.addCore(2);
        x.addGroup(0, 3);
        x.addPlain(1, 1, 40);
        x.addPlain(0, 2, 40);
        x.addTimed(1, 1, 7, 4);
        checks.due("before ticks", x.isSound(), true);
        x.pass(5);
        x.take(0, 0);
        x.take(1, 0);
        checks.due("with a lock", x.isSound(), true);
        x.end(0);
        x.pass(20);
        checks.due("after an end", x.isSound(), true);
        String before = Picture.of(x);
        x.isSound();
        checks.due("it changes nothing", Picture.of(x), before);
    }
}
