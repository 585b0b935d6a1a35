import java.util.NoSuchElementException;

/** "Terms", Work and Admission: a test for each sentence that names a boundary. */
public final class TermsWorkTest {
    private static final Class<NoSuchElementException> NOT_THERE = NoSuchElementException.class;
    private static final Class<UnsupportedOperationException> UNSUPPORTED =
            UnsupportedOperationException.class;

    private static final Checks checks = new Checks();

    public static void main(String[] args) {
        test("Work: a plain task, the least number of units", TermsWorkTest::oneUnit);
        test("Work: a plain task, the greatest number", TermsWorkTest::manyUnits);
        test("Work: released in the tick in which it is added", TermsWorkTest::added);
        test("Work: released again after the least period", TermsWorkTest::leastPeriod);
        test("Work: released again after the greatest period", TermsWorkTest::greatPeriod);
        test("Work: the least budget is left then", TermsWorkTest::leastBudget);
        test("Work: the greatest budget is left then", TermsWorkTest::greatBudget);
        test("Work: the deadline is the tick of its next release", TermsWorkTest::deadline);
        test("Work: no miss if no unit was left", TermsWorkTest::noMiss);
        test("Work: a miss if one unit was left", TermsWorkTest::missOfOne);
        test("Work: a miss if the whole budget was left", TermsWorkTest::missOfAll);
        test("Work: a miss at the release, not before it", TermsWorkTest::missInTime);
        test("Admission: the share, rounded up", TermsWorkTest::shares);
        test("Admission: the promise without cores", TermsWorkTest::noCores);
        test("Admission: the promise is the sum of the speeds", TermsWorkTest::sumOfSpeeds);
        test("Admission: but at most the power cap", TermsWorkTest::atMostTheCap);
        test("Admission: of the speeds, not of the paces", TermsWorkTest::hotCores);
        test("Admission: a sum of 1000 times the promise", TermsWorkTest::justAdmitted);
        test("Admission: a sum of 1 more", TermsWorkTest::justNotAdmitted);
        test("Admission: the share of one alone", TermsWorkTest::oneAlone);
        test("Admission: the greatest promise", TermsWorkTest::greatestPromise);
        test("Admission: nothing is promised", TermsWorkTest::nothingPromised);
        test("Admission: that have not ended", TermsWorkTest::endedDoNotCount);
        test("Admission: plain tasks do not count", TermsWorkTest::plainDoNotCount);
        test("Admission: what was admitted stays", TermsWorkTest::stays);
        checks.finish();
    }

    private static void test(String sentence, Runnable body) {
        checks.test("Terms, " + sentence, body);
    }

    private static void oneUnit() {
        TaskKernel x = Kernels.plain(Kernels.cores(4), 1, 1);
        checks.due("left(0)", x.left(0), 1);
        checks.due("stateOf(0)", x.stateOf(0), 'r');
        checks.due("pass(1)", x.pass(1), 1);
        checks.due("left(0)", x.left(0), 0);
        checks.due("stateOf(0)", x.stateOf(0), 'i');
        checks.due("pass(50)", x.pass(50), 0);
        checks.due("left(0)", x.left(0), 0);
        checks.due("end(0)", x.end(0), 0);
    }

    private static void manyUnits() {
        TaskKernel x = Kernels.plain(Kernels.cores(4), 1, 500);
        checks.due("left(0)", x.left(0), 500);
        // 13 ticks of 4 make it hot; 224 ticks of 2 are the other 448 units.
        Kernels.inTick(236, x);
        checks.due("left(0)", x.left(0), 2);
        checks.due("stateOf(0)", x.stateOf(0), 'r');
        checks.due("pass(1)", x.pass(1), 2);
        checks.due("left(0)", x.left(0), 0);
        checks.due("stateOf(0)", x.stateOf(0), 'i');
        checks.due("doneBy(0)", x.doneBy(0), 500);
        checks.due("pass(50)", x.pass(50), 0);
    }

    private static void added() {
        TaskKernel x = Kernels.inTick(3, Kernels.cores(1));
        x.addTimed(0, 1, 5, 2);
        checks.due("left(0)", x.left(0), 2);
        checks.due("deadlineOf(0)", x.deadlineOf(0), 8);
        checks.due("stateOf(0)", x.stateOf(0), 'r');
        checks.due("missesOf(0)", x.missesOf(0), 0);
        x.pass(1);
        checks.due("not released once more in that tick", x.left(0), 1);
        checks.due("deadlineOf(0)", x.deadlineOf(0), 8);
        checks.due("missesOf(0)", x.missesOf(0), 0);
    }

    private static void leastPeriod() {
        TaskKernel x = Kernels.inTick(3, Kernels.cores(1));
        x.addTimed(0, 1, 2, 1);
        int[] done = {1, 0, 1, 0, 1, 0};
        for (int i = 0; i < done.length; i++) {
            checks.due("units in the tick " + (3 + i), x.pass(1), done[i]);
        }
        checks.due("misses", x.misses(), 0);
        checks.due("the release in the tick 9 is the next", x.deadlineOf(0), 9);
    }

    private static void greatPeriod() {
        TaskKernel x = Kernels.inTick(3, Kernels.cores(1));
        x.addTimed(0, 1, 60, 1);
        checks.due("in the tick 3", x.pass(1), 1);
        checks.due("in the ticks 4 to 53", x.pass(50), 0);
        checks.due("in the ticks 54 to 62", x.pass(9), 0);
        checks.due("now", x.now(), 63);
        checks.due("left(0)", x.left(0), 0);
        checks.due("in the tick 63", x.pass(1), 1);
        checks.due("in the ticks 64 to 113", x.pass(50), 0);
        checks.due("in the ticks 114 to 122", x.pass(9), 0);
        checks.due("in the tick 123", x.pass(1), 1);
    }

    private static void leastBudget() {
        TaskKernel x = Kernels.cores(4);
        x.addTimed(0, 1, 2, 1);
        checks.due("left(0)", x.left(0), 1);
        checks.due("pass(1)", x.pass(1), 1);
        x.pass(1);
        x.setCap(0);
        x.pass(1);
        checks.due("left(0) after a release", x.left(0), 1);
        x.pass(2);
        checks.due("left(0) after another", x.left(0), 1);
    }

    private static void greatBudget() {
        TaskKernel x = Kernels.cores(4);
        x.setLimit(99);
        x.addTimed(0, 1, 10, 40);
        checks.due("left(0)", x.left(0), 40);
        checks.due("the whole budget in a period", x.pass(10), 40);
        checks.due("left(0)", x.left(0), 0);
        checks.due("the first units of the next", x.pass(1), 4);
        checks.due("left(0)", x.left(0), 36);
        checks.due("misses", x.misses(), 0);
        Kernels.rest(x, 10);
        checks.due("left(0): not 36 more", x.left(0), 40);
        checks.due("misses", x.misses(), 1);
    }

    private static void deadline() {
        TaskKernel x = Kernels.inTick(7, Kernels.cores(1));
        x.addTimed(0, 1, 3, 1);
        int[] due = {10, 10, 10, 10, 13, 13, 13, 16};
        for (int i = 0; i < due.length; i++) {
            checks.due("in the tick " + (7 + i), x.deadlineOf(0), due[i]);
            x.pass(1);
        }
    }

    private static void noMiss() {
        TaskKernel x = Kernels.cores(1);
        x.addTimed(0, 1, 3, 3);
        x.pass(3);
        checks.due("left(0)", x.left(0), 0);
        x.pass(1);
        checks.due("missesOf(0)", x.missesOf(0), 0);
        checks.due("misses", x.misses(), 0);
        checks.due("left(0)", x.left(0), 2);
    }

    private static void missOfOne() {
        TaskKernel x = Kernels.cores(1);
        x.addTimed(0, 1, 3, 3);
        x.pass(2);
        Kernels.rest(x, 1);
        checks.due("left(0)", x.left(0), 1);
        x.pass(1);
        checks.due("missesOf(0)", x.missesOf(0), 1);
        checks.due("misses", x.misses(), 1);
        checks.due("the unit is dropped", x.left(0), 2);
        checks.due("doneBy(0)", x.doneBy(0), 3);
    }

    private static void missOfAll() {
        TaskKernel x = Kernels.cores(1);
        x.addTimed(0, 1, 3, 3);
        Kernels.rest(x, 3);
        checks.due("left(0)", x.left(0), 3);
        Kernels.rest(x, 1);
        checks.due("missesOf(0)", x.missesOf(0), 1);
        checks.due("the units are dropped", x.left(0), 3);
        Kernels.rest(x, 3);
        checks.due("missesOf(0)", x.missesOf(0), 2);
        checks.due("left(0)", x.left(0), 3);
        checks.due("doneBy(0)", x.doneBy(0), 0);
    }

    private static void missInTime() {
        TaskKernel x = Kernels.cores(1);
        x.addTimed(0, 1, 2, 1);
        x.setCap(0);
        x.pass(2);
        checks.due("in the tick 2, before the release", x.misses(), 0);
        checks.due("deadlineOf(0)", x.deadlineOf(0), 2);
        checks.due("it is urgent still", x.urgencyOf(0), 2);
        x.pass(1);
        checks.due("in the tick 3", x.misses(), 1);
        checks.due("deadlineOf(0)", x.deadlineOf(0), 4);
    }

    private static void shares() {
        int[][] periodBudgetShare = {{2, 1, 500}, {3, 1, 334}, {3, 2, 667}, {3, 3, 1000},
            {7, 1, 143}, {7, 6, 858}, {8, 1, 125}, {9, 1, 112}, {11, 11, 1000}, {27, 1, 38},
            {37, 1, 28}, {59, 40, 678}, {60, 1, 17}, {60, 3, 50}, {60, 40, 667}, {41, 40, 976},
            {40, 40, 1000}, {39, 40, 1026}, {4, 40, 10000}, {2, 24, 12000}, {3, 36, 12000}};
        for (int[] row : periodBudgetShare) {
            TaskKernel x = Kernels.cores(4, 4, 4);
            x.addTimed(0, 1, row[0], row[1]);
            checks.due("the share of " + row[1] + " in " + row[0], x.admitted(), row[2]);
        }
    }

    private static void noCores() {
        TaskKernel x = new TaskKernel();
        checks.due("promise", x.promise(), 0);
        x.setCap(0);
        checks.due("promise", x.promise(), 0);
        x.pass(1);
        checks.due("promise", x.promise(), 0);
    }

    private static void sumOfSpeeds() {
        TaskKernel x = Kernels.cores(1);
        checks.due("one core", x.promise(), 1);
        x.addCore(4);
        checks.due("two cores", x.promise(), 5);
        x.addCore(4);
        checks.due("three cores", x.promise(), 9);
        checks.due("the greatest", Kernels.cores(4, 4, 4).promise(), 12);
        checks.due("the least of three", Kernels.cores(1, 1, 1).promise(), 3);
    }

    private static void atMostTheCap() {
        TaskKernel x = Kernels.cores(4, 3, 2);
        x.setCap(10);
        checks.due("a cap of 1 more", x.promise(), 9);
        x.setCap(9);
        checks.due("a cap of the sum", x.promise(), 9);
        x.setCap(8);
        checks.due("a cap of 1 less", x.promise(), 8);
        x.setCap(1);
        checks.due("a cap of 1", x.promise(), 1);
        x.setCap(0);
        checks.due("a cap of 0", x.promise(), 0);
        x.setCap(12);
        checks.due("a cap of 12", x.promise(), 9);
    }

    private static void hotCores() {
        TaskKernel x = Kernels.plain(Kernels.cores(4, 4), 2, 9);
        x.setLimit(1);
        x.pass(1);
        checks.due("pace(0)", x.pace(0), 2);
        checks.due("promise", x.promise(), 8);
        checks.due("8000 of 8000", x.addTimed(0, 1, 5, 40), 2);
    }

    private static void justAdmitted() {
        TaskKernel x = Kernels.cores(1);
        checks.due("500 of 1000", x.addTimed(0, 1, 2, 1), 0);
        checks.due("1000 of 1000", x.addTimed(0, 1, 4, 2), 1);
        checks.due("admitted", x.admitted(), 1000);
        checks.thrown("the least share more", UNSUPPORTED, () -> x.addTimed(0, 1, 60, 1));
        checks.due("admitted", x.admitted(), 1000);
    }

    private static TaskKernel twoThirds() {
        TaskKernel x = Kernels.cores(1);
        x.addTimed(0, 1, 3, 2);
        return x;
    }

    private static void justNotAdmitted() {
        checks.refused(TermsWorkTest::twoThirds, "667 and 334 are 1001", UNSUPPORTED,
                x -> x.addTimed(0, 1, 3, 1));
        TaskKernel x = twoThirds();
        checks.due("667 and 320", x.addTimed(0, 1, 50, 16), 1);
        TaskKernel y = Kernels.cores(1);
        for (int i = 0; i < 6; i++) {
            checks.due("a seventh, 143", y.addTimed(0, 1, 7, 1), i);
        }
        checks.thrown("7 times 143 are 1001", UNSUPPORTED, () -> y.addTimed(0, 1, 7, 1));
        checks.due("858 and 125", y.addTimed(0, 1, 8, 1), 6);
        checks.thrown("983 and 18 are 1001", UNSUPPORTED, () -> y.addTimed(0, 1, 56, 1));
        checks.due("983 and 17 are 1000", y.addTimed(0, 1, 60, 1), 7);
        checks.due("admitted", y.admitted(), 1000);
    }

    private static void oneAlone() {
        checks.due("1000 of 1000", Kernels.cores(1).addTimed(0, 1, 40, 40), 0);
        checks.refused(() -> Kernels.cores(1), "1026 of 1000", UNSUPPORTED,
                x -> x.addTimed(0, 1, 39, 40));
        checks.due("2000 of 2000", Kernels.cores(2).addTimed(0, 1, 2, 4), 0);
        checks.refused(() -> Kernels.cores(2), "2500 of 2000", UNSUPPORTED,
                x -> x.addTimed(0, 1, 2, 5));
    }

    private static TaskKernel twelve(int period, int budget) {
        TaskKernel x = Kernels.cores(4, 4, 4);
        x.addTimed(0, 1, period, budget);
        return x;
    }

    private static void greatestPromise() {
        checks.due("12000 alone", twelve(3, 36).admitted(), 12000);
        checks.refused(() -> twelve(3, 36), "12017", UNSUPPORTED, x -> x.addTimed(0, 1, 60, 1));
        checks.due("11667", twelve(3, 35).admitted(), 11667);
        checks.refused(() -> twelve(3, 35), "12001", UNSUPPORTED, x -> x.addTimed(0, 1, 3, 1));
        checks.due("11667 and 250", twelve(3, 35).addTimed(0, 1, 4, 1), 1);
        TaskKernel x = twelve(2, 23);
        checks.due("11500 and 500", x.addTimed(0, 1, 2, 1), 1);
        checks.due("admitted", x.admitted(), 12000);
        checks.refused(() -> Kernels.cores(4, 4, 4), "12334 alone", UNSUPPORTED,
                k -> k.addTimed(0, 1, 3, 37));
        checks.refused(() -> Kernels.cores(4, 4, 4), "the greatest share, 20000", UNSUPPORTED,
                k -> k.addTimed(0, 1, 2, 40));
    }

    private static void nothingPromised() {
        checks.refused(TaskKernel::new, "no cores", UNSUPPORTED, x -> x.addTimed(0, 1, 60, 1));
        checks.refused(() -> {
            TaskKernel x = Kernels.cores(4, 4, 4);
            x.setCap(0);
            return x;
        }, "a cap of 0", UNSUPPORTED, x -> x.addTimed(0, 1, 60, 1));
    }

    private static void endedDoNotCount() {
        TaskKernel x = Kernels.cores(1);
        for (int task = 0; task < 5; task++) {
            checks.due("1000 of 1000", x.addTimed(0, 1, 2, 2), task);
            checks.due("admitted", x.admitted(), 1000);
            checks.thrown("17 more", UNSUPPORTED, () -> x.addTimed(0, 1, 60, 1));
            x.end(task);
            checks.due("admitted", x.admitted(), 0);
        }
    }

    private static void plainDoNotCount() {
        TaskKernel x = Kernels.plain(Kernels.cores(1), 3, 500);
        checks.due("admitted", x.admitted(), 0);
        checks.due("1000 of 1000", x.addTimed(0, 1, 2, 2), 3);
        x.end(0);
        checks.due("admitted after the end of a plain one", x.admitted(), 1000);
        checks.due("a plain one more", x.addPlain(0, 1, 500), 4);
    }

    private static void stays() {
        TaskKernel x = Kernels.cores(2);
        x.addTimed(0, 1, 2, 4);
        x.setCap(1);
        checks.due("promise", x.promise(), 1);
        checks.due("admitted", x.admitted(), 2000);
        checks.due("stateOf(0)", x.stateOf(0), 'r');
        x.pass(3);
        checks.due("it is released", x.deadlineOf(0), 4);
        checks.thrown("17 more than 2000", UNSUPPORTED, () -> x.addTimed(0, 1, 60, 1));
        x.setCap(2);
        checks.due("promise", x.promise(), 2);
        checks.thrown("2017 of 2000", UNSUPPORTED, () -> x.addTimed(0, 1, 60, 1));
        x.end(0);
        checks.due("2000 of 2000", x.addTimed(0, 1, 2, 4), 1);
        x.setCap(0);
        checks.due("admitted", x.admitted(), 2000);
        checks.due("urgencyOf(1)", x.urgencyOf(1), 5);
        checks.thrown("urgencyOf(0)", NOT_THERE, () -> x.urgencyOf(0));
    }
}
