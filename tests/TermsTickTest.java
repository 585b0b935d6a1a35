/** "Terms", What happens in a tick: a test for each sentence that names a boundary. */
public final class TermsTickTest {
    private static final Checks checks = new Checks();

    public static void main(String[] args) {
        test("First: released before the choices", TermsTickTest::releasedFirst);
        test("First: those that have not ended", TermsTickTest::endedNotReleased);
        test("First: those that wait too", TermsTickTest::waitingReleased);
        test("First: all whose release it is", TermsTickTest::allReleased);
        test("First: except those that were added in this tick", TermsTickTest::addedNow);
        test("Second: no task for two cores", TermsTickTest::oneForTwoCores);
        test("Second: all choices before the work", TermsTickTest::choicesFirst);
        test("Third: the units are the pace", TermsTickTest::paceUnits);
        test("Third: less 1 after another core", TermsTickTest::lessOne);
        test("Third: not less 1 the first time", TermsTickTest::firstTime);
        test("Third: not less 1 after the same core", TermsTickTest::sameCore);
        test("Third: the last time, not the tick before", TermsTickTest::afterRest);
        test("Third: the last time, if nothing was done then", TermsTickTest::nothingDone);
        test("Third: less 1 at the lower pace", TermsTickTest::lessOneWhenHot);
        test("Third: not more than are left", TermsTickTest::notMore);
        test("Third: not more than are left after a move", TermsTickTest::notMoreMoved);
        test("Third: the units are taken from those left", TermsTickTest::taken);
        test("Third: virtual times of the task and all groups", TermsTickTest::times);
        test("Third: virtual times by units, if fewer are left", TermsTickTest::fewerUnits);
        test("Third: virtual times, if no unit is done", TermsTickTest::noUnits);
        test("Third: the greatest virtual time", TermsTickTest::greatestTime);
        test("Fourth: the heat greater by the pace", TermsTickTest::hotter);
        test("Fourth: by the pace, if fewer units are done", TermsTickTest::hotterThanUnits);
        test("Fourth: by the pace, after a move", TermsTickTest::hotterMoved);
        test("Fourth: by the pace before it is hot", TermsTickTest::paceBefore);
        test("Fourth: less by 3, but not less than 0", TermsTickTest::cooler);
        test("Fourth: less by 3 of each other core", TermsTickTest::othersCooler);
        test("Then the next tick is the present one", TermsTickTest::nextTick);
        test("Several ticks are as many single ones", TermsTickTest::singleTicks);
        checks.finish();
    }

    private static void test(String sentence, Runnable body) {
        checks.test("Terms, What happens in a tick: " + sentence, body);
    }

    private static void releasedFirst() {
        TaskKernel x = Kernels.plain(Kernels.cores(4), 1, 100);
        x.addTimed(0, 1, 3, 4);
        x.pass(3);
        checks.chosen(x, "in the tick 3, without the release", 0, 0);
        checks.due("doneBy(1)", x.doneBy(1), 4);
        x.pass(1);
        checks.due("released, then chosen", x.doneBy(1), 8);
        checks.due("doneBy(0)", x.doneBy(0), 8);
    }

    private static void endedNotReleased() {
        TaskKernel x = Kernels.cores(1);
        x.addTimed(0, 1, 3, 1);
        x.addTimed(0, 1, 3, 1);
        x.pass(3);
        x.end(0);
        x.pass(1);
        checks.due("left(0)", x.left(0), 0);
        checks.due("deadlineOf(0)", x.deadlineOf(0), 3);
        checks.due("doneBy(0)", x.doneBy(0), 1);
        checks.due("the other is", x.doneBy(1), 2);
        checks.due("deadlineOf(1)", x.deadlineOf(1), 6);
    }

    private static void waitingReleased() {
        TaskKernel x = Kernels.cores(1);
        x.addTimed(0, 1, 3, 1);
        x.addTimed(0, 1, 3, 1);
        x.pass(2);
        x.take(0, 0);
        x.take(1, 0);
        Kernels.rest(x, 2);
        checks.due("left(1)", x.left(1), 1);
        checks.due("deadlineOf(1)", x.deadlineOf(1), 6);
        checks.due("stateOf(1)", x.stateOf(1), 'w');
    }

    private static void allReleased() {
        TaskKernel x = Kernels.cores(4, 4);
        for (int task = 0; task < 12; task++) {
            x.addTimed(0, 1, 2 + task % 2, 1);
        }
        x.setCap(0);
        x.pass(7);
        for (int task = 0; task < 12; task++) {
            checks.due("misses of " + task, x.missesOf(task), task % 2 == 0 ? 3 : 2);
            checks.due("deadline of " + task, x.deadlineOf(task), task % 2 == 0 ? 8 : 9);
        }
        checks.due("misses", x.misses(), 30);
    }

    private static void addedNow() {
        TaskKernel x = Kernels.cores(4);
        x.addTimed(0, 1, 2, 1);
        x.pass(2);
        x.addTimed(0, 1, 2, 1);
        x.setCap(0);
        x.pass(1);
        checks.due("added in the tick 2: no miss", x.missesOf(1), 0);
        checks.due("deadlineOf(1)", x.deadlineOf(1), 4);
        x.pass(1);
        checks.due("none in the tick 3", x.missesOf(1), 0);
        x.pass(1);
        checks.due("one in the tick 4", x.missesOf(1), 1);
        checks.due("deadlineOf(1)", x.deadlineOf(1), 6);
    }

    private static void oneForTwoCores() {
        TaskKernel x = Kernels.plain(Kernels.cores(4, 4, 4), 1, 100);
        checks.due("pass(1)", x.pass(1), 4);
        checks.due("heat(0)", x.heat(0), 4);
        checks.due("heat(1)", x.heat(1), 0);
        checks.due("moves", x.moves(), 0);
    }

    private static void choicesFirst() {
        TaskKernel x = Kernels.cores(4, 4);
        x.addGroup(0, 1);
        x.addPlain(1, 1, 100);
        x.addPlain(1, 1, 100);
        x.addPlain(0, 1, 100);
        checks.choices(x, "both of the group 1, at 0", 0, 1);
        x.pass(1);
        checks.due("doneBy(0)", x.doneBy(0), 4);
        checks.due("the group 1 is at 0 still when the core 1 chooses", x.doneBy(1), 4);
        checks.due("doneBy(2)", x.doneBy(2), 0);
        checks.due("timeOfGroup(1)", x.timeOfGroup(1), 20160L);
    }

    private static void paceUnits() {
        for (int speed = 1; speed <= 4; speed++) {
            TaskKernel x = Kernels.plain(Kernels.cores(speed), 1, 100);
            checks.due("cold, " + speed, x.pass(1), speed);
            x.setLimit(1);
            checks.due("hot, " + speed, x.pass(1), speed < 3 ? 1 : 2);
        }
    }

    /**
     * A core of the speed 4 and a slower one. One task has been chosen for the core 0, and under
     * the cap it is chosen for the slower one next.
     */
    private static TaskKernel toTheSlower(int speed, int units) {
        TaskKernel x = Kernels.plain(Kernels.cores(4, speed), 1, units);
        x.pass(1);
        x.setCap(speed);
        return x;
    }

    private static void lessOne() {
        for (int speed = 1; speed <= 3; speed++) {
            TaskKernel x = toTheSlower(speed, 100);
            checks.due("to a core of " + speed, x.pass(1), speed - 1);
            checks.due("moves", x.moves(), 1);
            x.setCap(12);
            checks.due("back to the core of 4", x.pass(1), 3);
            checks.due("moves", x.moves(), 2);
        }
    }

    private static void firstTime() {
        TaskKernel x = Kernels.plain(Kernels.cores(4, 3), 1, 100);
        x.setCap(3);
        checks.choices(x, "the core 1 first", -1, 0);
        checks.due("pass(1)", x.pass(1), 3);
        checks.due("moves", x.moves(), 0);
        x.addPlain(0, 1, 100);
        x.end(0);
        checks.due("another task, after the first one there", x.pass(1), 3);
        checks.due("doneBy(1)", x.doneBy(1), 3);
        checks.due("moves", x.moves(), 0);
    }

    private static void sameCore() {
        TaskKernel x = toTheSlower(3, 100);
        x.pass(1);
        checks.due("the second time on the core 1", x.pass(1), 3);
        checks.due("the third time", x.pass(1), 3);
        checks.due("moves", x.moves(), 1);
    }

    private static void afterRest() {
        TaskKernel x = toTheSlower(3, 100);
        x.pass(1);
        Kernels.rest(x, 9);
        checks.due("the same core after a rest", x.pass(1), 3);
        checks.due("moves", x.moves(), 1);
        Kernels.rest(x, 9);
        x.setCap(12);
        checks.due("another core after a rest", x.pass(1), 3);
        checks.due("moves", x.moves(), 2);
        checks.due("doneBy(0)", x.doneBy(0), 4 + 2 + 3 + 3);
    }

    private static void nothingDone() {
        TaskKernel x = toTheSlower(1, 100);
        checks.due("1 less 1", x.pass(1), 0);
        checks.due("moves", x.moves(), 1);
        checks.due("the last time was the core 1", x.pass(1), 1);
        checks.due("moves", x.moves(), 1);
        TaskKernel y = toTheSlower(1, 100);
        y.pass(1);
        y.setCap(12);
        checks.due("back, 4 less 1", y.pass(1), 3);
        checks.due("moves", y.moves(), 2);
    }

    private static void lessOneWhenHot() {
        TaskKernel x = Kernels.plain(Kernels.cores(4, 3), 2, 100);
        x.pass(1);
        x.setLimit(1);
        x.end(0);
        checks.due("the task 1 moves to the core 0: 2 less 1", x.pass(1), 1);
        checks.due("moves", x.moves(), 1);
        checks.due("heat(0)", x.heat(0), 6);
    }

    private static void notMore() {
        int[] units = {1, 2, 3, 4, 5, 6};
        for (int left : units) {
            TaskKernel x = Kernels.plain(Kernels.cores(4), 1, left);
            checks.due("4, of " + left, x.pass(1), left < 4 ? left : 4);
            checks.due("left(0) of " + left, x.left(0), left < 4 ? 0 : left - 4);
        }
    }

    private static void notMoreMoved() {
        int[] units = {1, 2, 3, 4};
        for (int left : units) {
            TaskKernel x = toTheSlower(3, 4 + left);
            checks.due("3 less 1, of " + left, x.pass(1), left < 2 ? left : 2);
            checks.due("left(0) of " + left, x.left(0), left < 2 ? 0 : left - 2);
        }
        TaskKernel x = toTheSlower(1, 5);
        checks.due("1 less 1, of 1", x.pass(1), 0);
        checks.due("left(0)", x.left(0), 1);
        checks.due("stateOf(0)", x.stateOf(0), 'r');
    }

    private static void taken() {
        TaskKernel x = Kernels.plain(Kernels.cores(3), 1, 7);
        int[] left = {4, 1, 0, 0};
        for (int due : left) {
            x.pass(1);
            checks.due("left(0)", x.left(0), due);
            checks.due("doneBy(0)", x.doneBy(0), 7 - due);
            checks.due("doneIn(0)", x.doneIn(0), 7 - due);
        }
    }

    private static void times() {
        TaskKernel x = Kernels.cores(4);
        for (int parent = 0; parent < 5; parent++) {
            x.addGroup(parent, 9 - parent);
        }
        x.addPlain(5, 1, 100);
        x.addPlain(2, 7, 100);
        x.pass(1);
        long[] due = {1120, 1260, 1440, 1680, 2016};
        for (int group = 1; group <= 5; group++) {
            checks.due("the group " + group, x.timeOfGroup(group), due[group - 1]);
        }
        checks.due("the task in 5", x.timeOf(0), 10080L);
        x.pass(1);
        checks.due("the task in 2", x.timeOf(1), 1440L);
        checks.due("the group 1", x.timeOfGroup(1), 2240L);
        checks.due("the group 2", x.timeOfGroup(2), 2520L);
        checks.due("a group under 2 stays", x.timeOfGroup(3), 1440L);
        checks.due("the task in 5 stays", x.timeOf(0), 10080L);
    }

    private static void fewerUnits() {
        TaskKernel x = Kernels.cores(4);
        x.addGroup(0, 9);
        x.addPlain(1, 7, 1);
        x.pass(1);
        checks.due("one unit of the weight 7", x.timeOf(0), 360L);
        checks.due("one unit of the weight 9", x.timeOfGroup(1), 280L);
        x.pass(5);
        checks.due("no unit more", x.timeOf(0), 360L);
        checks.due("no unit more", x.timeOfGroup(1), 280L);
    }

    private static void noUnits() {
        TaskKernel x = Kernels.cores(4, 1);
        x.addGroup(0, 1);
        x.addPlain(1, 1, 100);
        x.pass(1);
        x.setCap(1);
        checks.due("1 less 1", x.pass(1), 0);
        checks.due("timeOf(0)", x.timeOf(0), 10080L);
        checks.due("timeOfGroup(1)", x.timeOfGroup(1), 10080L);
        checks.due("doneBy(0)", x.doneBy(0), 4);
    }

    private static void greatestTime() {
        TaskKernel x = Kernels.cores(4, 4, 4);
        x.addGroup(0, 1);
        for (int task = 0; task < 12; task++) {
            x.addPlain(1, 1, 500);
        }
        x.setLimit(99);
        Kernels.inTick(900, x);
        // 25 ticks of 12 units, then 875 of 6; three tasks always change places with three others.
        checks.due("moves", x.moves(), 0);
        checks.due("doneIn(1)", x.doneIn(1), 5550);
        checks.due("timeOfGroup(1)", x.timeOfGroup(1), 13_986_000L);
    }

    private static void hotter() {
        for (int speed = 1; speed <= 4; speed++) {
            TaskKernel x = Kernels.plain(Kernels.cores(speed), 1, 100);
            x.pass(1);
            checks.due("cold, " + speed, x.heat(0), speed);
            x.setLimit(1);
            x.pass(1);
            checks.due("hot, " + speed, x.heat(0), speed + (speed < 3 ? 1 : 2));
        }
    }

    private static void hotterThanUnits() {
        TaskKernel x = Kernels.plain(Kernels.cores(4), 1, 1);
        checks.due("pass(1)", x.pass(1), 1);
        checks.due("heat(0)", x.heat(0), 4);
    }

    private static void hotterMoved() {
        TaskKernel x = toTheSlower(3, 100);
        checks.due("pass(1)", x.pass(1), 2);
        checks.due("heat(1)", x.heat(1), 3);
        TaskKernel y = toTheSlower(1, 100);
        checks.due("pass(1)", y.pass(1), 0);
        checks.due("heat(1), and no unit", y.heat(1), 1);
    }

    private static void paceBefore() {
        TaskKernel x = Kernels.plain(Kernels.cores(4), 1, 100);
        x.setLimit(1);
        checks.due("cold at the beginning of the tick", x.pass(1), 4);
        checks.due("heat(0)", x.heat(0), 4);
        checks.due("pace(0) after it", x.pace(0), 2);
    }

    private static void cooler() {
        for (int speed = 1; speed <= 4; speed++) {
            TaskKernel x = Kernels.plain(Kernels.cores(speed), 1, speed);
            x.pass(1);
            checks.due("heat(0)", x.heat(0), speed);
            x.pass(1);
            checks.due("from " + speed, x.heat(0), speed < 4 ? 0 : 1);
            x.pass(1);
            checks.due("once more", x.heat(0), 0);
            x.pass(50);
            checks.due("not less than 0", x.heat(0), 0);
        }
        TaskKernel x = Kernels.plain(Kernels.cores(4), 1, 9);
        x.pass(2);
        Kernels.rest(x, 1);
        checks.due("from 8 to 5", x.heat(0), 5);
    }

    private static void othersCooler() {
        TaskKernel x = Kernels.plain(Kernels.cores(4, 4, 4), 3, 100);
        x.pass(2);
        x.setCap(4);
        x.pass(1);
        checks.due("heat(0), chosen", x.heat(0), 12);
        checks.due("heat(1), by the cap", x.heat(1), 5);
        checks.due("heat(2), by the cap", x.heat(2), 5);
        x.setCap(12);
        x.end(0);
        x.end(1);
        x.end(2);
        x.pass(1);
        checks.due("heat(0), no task", x.heat(0), 9);
        checks.due("heat(1), no task", x.heat(1), 2);
        checks.due("heat(2), no task", x.heat(2), 2);
    }

    private static void nextTick() {
        TaskKernel x = new TaskKernel();
        for (int tick = 1; tick <= 60; tick++) {
            x.pass(1);
            checks.due("now", x.now(), tick);
        }
        x.pass(50);
        checks.due("now", x.now(), 110);
    }

    private static void singleTicks() {
        TaskKernel x = Kernels.full();
        TaskKernel y = Kernels.full();
        int sum = 0;
        for (int i = 0; i < 50; i++) {
            sum += y.pass(1);
        }
        checks.due("pass(50)", x.pass(50), sum);
        checks.due("the state", Picture.of(x), Picture.of(y));
        checks.due("units were done", sum > 100, true);
    }
}
