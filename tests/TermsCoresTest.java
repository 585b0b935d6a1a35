/** "Terms", the head, Ticks and Cores: a test for each sentence that names a boundary. */
public final class TermsCoresTest {
    private static final Class<IllegalArgumentException> ARGUMENT = IllegalArgumentException.class;
    private static final Class<IllegalStateException> STATE = IllegalStateException.class;

    private static final Checks checks = new Checks();

    public static void main(String[] args) {
        test("the head: an object is used for at most 512 calls", TermsCoresTest::lastCall);
        test("Ticks: the present tick is 0 at first", TermsCoresTest::firstTick);
        test("Ticks: and at most 900", TermsCoresTest::lastTick);
        test("Ticks: at most 900, in one tick", TermsCoresTest::lastTickByOne);
        test("Ticks: in the tick 900 all other calls hold", TermsCoresTest::inLastTick);
        test("Cores: at most 3, numbered from 0 in their order", TermsCoresTest::threeCores);
        test("Cores: a speed from 1 to 4", TermsCoresTest::speeds);
        test("Cores: the heat is 0 at first, in the tick 0", TermsCoresTest::coldAtFirst);
        test("Cores: the heat is 0 at first, in a later tick", TermsCoresTest::coldLater);
        test("Cores: its speed if its heat is less than the limit", TermsCoresTest::below);
        test("Cores: half of its speed at the limit", TermsCoresTest::atLimit);
        test("Cores: half of its speed above the limit", TermsCoresTest::aboveLimit);
        test("Cores: the limit is 50 at first", TermsCoresTest::firstLimit);
        test("Cores: the least limit, 1", TermsCoresTest::leastLimit);
        test("Cores: the greatest limit, 99", TermsCoresTest::greatestLimit);
        test("Cores: half of each speed, rounded up", TermsCoresTest::halves);
        test("Cores: the heat has no greatest number", TermsCoresTest::greatHeat);
        test("Cores: the power cap is 12 at first", TermsCoresTest::firstCap);
        checks.finish();
    }

    private static void test(String sentence, Runnable body) {
        checks.test("Terms, " + sentence, body);
    }

    private static void lastCall() {
        TaskKernel x = Kernels.plain(Kernels.cores(1), 1, 500);
        for (int call = 3; call <= 510; call++) {
            x.pass(1);
        }
        checks.due("the call 511, in the tick 508", x.doneBy(0), 500);
        checks.due("the call 512", x.isSound(), true);
    }

    private static void firstTick() {
        TaskKernel x = Kernels.cores(1);
        checks.due("now", x.now(), 0);
        x.addTimed(0, 1, 2, 1);
        checks.due("a first deadline", x.deadlineOf(0), 2);
        checks.due("now", x.now(), 0);
    }

    private static void lastTick() {
        checks.refused(() -> Kernels.inTick(851, Kernels.cores(1)), "50 from 851", STATE,
                x -> x.pass(50));
        TaskKernel x = Kernels.inTick(850, Kernels.cores(1));
        checks.due("50 from 850", x.pass(50), 0);
        checks.due("now", x.now(), 900);
        checks.thrown("50 from 900", STATE, () -> x.pass(50));
        checks.due("now", x.now(), 900);
    }

    private static void lastTickByOne() {
        checks.refused(() -> Kernels.inTick(899, Kernels.cores(1)), "2 from 899", STATE,
                x -> x.pass(2));
        TaskKernel x = Kernels.inTick(899, Kernels.cores(1));
        checks.due("1 from 899", x.pass(1), 0);
        checks.due("now", x.now(), 900);
        checks.thrown("1 from 900", STATE, () -> x.pass(1));
        checks.due("now", x.now(), 900);
    }

    private static void inLastTick() {
        TaskKernel x = Kernels.cores(1);
        x.addTimed(0, 1, 60, 1);
        x.setCap(0);
        Kernels.inTick(900, x);
        checks.due("released in 60 to 840, not yet in 900", x.misses(), 14);
        checks.due("its next release is in the tick 900", x.deadlineOf(0), 900);
        x.setCap(12);
        checks.due("a timed task is added", x.addTimed(0, 1, 60, 1), 1);
        checks.due("with a deadline that never comes", x.deadlineOf(1), 960);
        checks.chosen(x, "the urgency 900 before 960", 0, 0);
        checks.due("a group is added", x.addGroup(0, 1), 1);
        checks.due("a core is added", x.addCore(1), 1);
        checks.chosen(x, "for the new core", 1, 1);
        checks.due("a lock is taken", x.take(0, 0), true);
        checks.due("a task is ended", x.end(0), 1);
        checks.due("the lock is free", x.holderOf(0), -1);
        checks.due("now", x.now(), 900);
    }

    private static void threeCores() {
        TaskKernel x = new TaskKernel();
        checks.due("the first", x.addCore(3), 0);
        checks.due("the second", x.addCore(1), 1);
        checks.due("the third", x.addCore(4), 2);
        checks.thrown("a fourth", STATE, () -> x.addCore(1));
        checks.due("pace(0)", x.pace(0), 3);
        checks.due("pace(1)", x.pace(1), 1);
        checks.due("pace(2)", x.pace(2), 4);
        checks.due("promise", x.promise(), 8);
    }

    private static void speeds() {
        for (int speed = 1; speed <= 4; speed++) {
            TaskKernel x = Kernels.plain(Kernels.cores(speed), 1, 9);
            checks.due("a pace of " + speed, x.pace(0), speed);
            checks.due("a promise of " + speed, x.promise(), speed);
            checks.due("units of " + speed, x.pass(1), speed);
        }
        checks.refused(TaskKernel::new, "the speed 0", ARGUMENT, x -> x.addCore(0));
        checks.refused(TaskKernel::new, "the speed 5", ARGUMENT, x -> x.addCore(5));
    }

    private static void coldAtFirst() {
        TaskKernel x = Kernels.cores(4, 1);
        checks.due("heat(0)", x.heat(0), 0);
        checks.due("heat(1)", x.heat(1), 0);
        checks.due("meanHeat", x.meanHeat(), 0.0);
    }

    private static void coldLater() {
        TaskKernel x = Kernels.plain(Kernels.cores(4), 2, 500);
        x.setLimit(1);
        x.pass(10);
        checks.due("heat(0): 4 and 9 times 2", x.heat(0), 22);
        x.addCore(4);
        checks.due("heat(1)", x.heat(1), 0);
        checks.due("it is cold", x.pace(1), 4);
        checks.due("meanHeat", x.meanHeat(), 11.0);
    }

    /** A core of the speed 4 with the heat 4. */
    private static TaskKernel heatFour() {
        TaskKernel x = Kernels.plain(Kernels.cores(4), 1, 500);
        x.pass(1);
        return x;
    }

    private static void below() {
        TaskKernel x = heatFour();
        x.setLimit(5);
        checks.due("4 is less than 5", x.pace(0), 4);
        checks.due("pass(1)", x.pass(1), 4);
        checks.due("heat(0)", x.heat(0), 8);
    }

    private static void atLimit() {
        TaskKernel x = heatFour();
        x.setLimit(4);
        checks.due("4 is not less than 4", x.pace(0), 2);
        checks.due("pass(1)", x.pass(1), 2);
        checks.due("heat(0)", x.heat(0), 6);
    }

    private static void aboveLimit() {
        TaskKernel x = heatFour();
        x.setLimit(3);
        checks.due("4 is not less than 3", x.pace(0), 2);
        checks.due("pass(1)", x.pass(1), 2);
        checks.due("heat(0)", x.heat(0), 6);
    }

    private static void firstLimit() {
        TaskKernel x = Kernels.plain(Kernels.cores(4), 1, 500);
        checks.due("12 ticks of 4", x.pass(12), 48);
        Kernels.rest(x, 1);
        x.pass(1);
        checks.due("heat(0)", x.heat(0), 49);
        checks.due("49 is less than 50", x.pace(0), 4);
        checks.due("pass(1)", x.pass(1), 4);
        checks.due("heat(0)", x.heat(0), 53);
        checks.due("53 is not", x.pace(0), 2);
        Kernels.rest(x, 1);
        checks.due("heat(0)", x.heat(0), 50);
        checks.due("50 is not", x.pace(0), 2);
        checks.due("pass(1)", x.pass(1), 2);
        checks.due("heat(0)", x.heat(0), 52);
        checks.due("the limit", x.setLimit(50), 50);
    }

    private static void leastLimit() {
        TaskKernel x = heatFour();
        checks.due("setLimit", x.setLimit(1), 50);
        Kernels.rest(x, 1);
        checks.due("heat(0)", x.heat(0), 1);
        checks.due("1 is not less than 1", x.pace(0), 2);
        Kernels.rest(x, 1);
        checks.due("heat(0)", x.heat(0), 0);
        checks.due("0 is less than 1", x.pace(0), 4);
        checks.refused(TermsCoresTest::heatFour, "the limit 0", ARGUMENT, k -> k.setLimit(0));
    }

    private static void greatestLimit() {
        TaskKernel x = Kernels.plain(Kernels.cores(4), 1, 500);
        checks.due("setLimit", x.setLimit(99), 50);
        x.pass(24);
        checks.due("heat(0)", x.heat(0), 96);
        Kernels.rest(x, 1);
        x.pass(1);
        Kernels.rest(x, 1);
        x.pass(1);
        checks.due("93, 97, 94, 98", x.heat(0), 98);
        checks.due("98 is less than 99", x.pace(0), 4);
        Kernels.rest(x, 1);
        checks.due("pass(1)", x.pass(1), 4);
        checks.due("heat(0)", x.heat(0), 99);
        checks.due("99 is not less than 99", x.pace(0), 2);
        checks.due("pass(1)", x.pass(1), 2);
        checks.refused(TermsCoresTest::heatFour, "the limit 100", ARGUMENT, k -> k.setLimit(100));
    }

    private static void halves() {
        int[] halves = {1, 1, 2, 2};
        for (int speed = 1; speed <= 4; speed++) {
            TaskKernel x = Kernels.plain(Kernels.cores(speed), 1, 100);
            x.setLimit(1);
            x.pass(1);
            checks.due("the pace of a hot core of " + speed, x.pace(0), halves[speed - 1]);
            checks.due("units in a tick", x.pass(1), halves[speed - 1]);
            checks.due("heat(0)", x.heat(0), speed + halves[speed - 1]);
        }
    }

    private static void greatHeat() {
        TaskKernel x = Kernels.plain(Kernels.cores(1), 2, 500);
        Kernels.inTick(900, x);
        checks.due("heat(0)", x.heat(0), 900);
        checks.due("meanHeat", x.meanHeat(), 900.0);
        checks.due("pace(0)", x.pace(0), 1);
        checks.due("doneIn(0)", x.doneIn(0), 900);
        checks.due("usedShare", x.usedShare(), 1.0f);
        TaskKernel y = Kernels.plain(Kernels.cores(4), 4, 500);
        Kernels.inTick(900, y);
        checks.due("heat(0): 13 times 4 and 887 times 2", y.heat(0), 1826);
        checks.due("doneIn(0)", y.doneIn(0), 1826);
    }

    private static void firstCap() {
        TaskKernel x = Kernels.plain(Kernels.cores(4, 4, 4), 3, 9);
        checks.choices(x, "12 are not more than 12", 0, 1, 2);
        checks.due("promise", x.promise(), 12);
        checks.due("units in a tick", x.pass(1), 12);
        checks.due("the cap", x.setCap(12), 12);
        checks.refused(TaskKernel::new, "a cap of 13", ARGUMENT, k -> k.setCap(13));
        checks.refused(TaskKernel::new, "a cap of -1", ARGUMENT, k -> k.setCap(-1));
    }
}
