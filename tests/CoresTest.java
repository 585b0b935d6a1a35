/** Promises 1 to 6. */
public final class CoresTest {
    private static final Class<IllegalArgumentException> ARGUMENT = IllegalArgumentException.class;
    private static final Class<IllegalStateException> STATE = IllegalStateException.class;
    private static final Class<IndexOutOfBoundsException> INDEX = IndexOutOfBoundsException.class;

    private static final Checks checks = new Checks();

    public static void main(String[] args) {
        checks.test("1 a new object", CoresTest::newObject);
        checks.test("2 addCore", CoresTest::addCore);
        checks.test("2 addCore refused", CoresTest::addCoreRefused);
        checks.test("3 setLimit", CoresTest::setLimit);
        checks.test("4 setCap", CoresTest::setCap);
        checks.test("4 the cap and the cores that rest", CoresTest::capAndRest);
        checks.test("5 heat", CoresTest::heat);
        checks.test("5 heat of a core that rests by the cap", CoresTest::heatUnderTheCap);
        checks.test("6 pace", CoresTest::pace);
        checks.finish();
    }

    private static TaskKernel threeCores() {
        TaskKernel x = new TaskKernel();
        x.addCore(4);
        x.addCore(3);
        x.addCore(1);
        return x;
    }

    private static void newObject() {
        TaskKernel x = new TaskKernel();
        checks.due("now", x.now(), 0);
        checks.due("moves", x.moves(), 0);
        checks.due("misses", x.misses(), 0);
        checks.due("admitted", x.admitted(), 0);
        checks.due("promise", x.promise(), 0);
        checks.due("doneIn(0)", x.doneIn(0), 0);
        checks.due("isSound", x.isSound(), true);
        checks.thrown("heat(0)", INDEX, () -> x.heat(0));
        checks.thrown("doneIn(1)", INDEX, () -> x.doneIn(1));
        checks.thrown("left(0)", java.util.NoSuchElementException.class, () -> x.left(0));
        for (int lock = 0; lock < 4; lock++) {
            checks.due("holderOf " + lock, x.holderOf(lock), -1);
        }
        checks.due("setLimit", x.setLimit(1), 50);
        checks.due("setCap", x.setCap(0), 12);
        checks.due("pass(50)", x.pass(50), 0);
        checks.due("now", x.now(), 50);
        TaskKernel other = new TaskKernel();
        checks.due("now of another", other.now(), 0);
        checks.due("setCap of another", other.setCap(3), 12);
    }

    private static void addCore() {
        TaskKernel x = new TaskKernel();
        checks.due("addCore(1)", x.addCore(1), 0);
        checks.due("addCore(4)", x.addCore(4), 1);
        checks.due("addCore(2)", x.addCore(2), 2);
        checks.due("pace(0)", x.pace(0), 1);
        checks.due("pace(1)", x.pace(1), 4);
        checks.due("pace(2)", x.pace(2), 2);
        checks.due("heat(2)", x.heat(2), 0);
        checks.due("promise", x.promise(), 7);
    }

    private static void addCoreRefused() {
        int[] wrong = {0, 5, -1, Integer.MIN_VALUE, Integer.MAX_VALUE};
        for (int speed : wrong) {
            checks.refused(TaskKernel::new, "addCore " + speed, ARGUMENT, x -> x.addCore(speed));
            checks.refused(CoresTest::threeCores, "a fourth addCore " + speed, ARGUMENT,
                    x -> x.addCore(speed));
        }
        checks.refused(CoresTest::threeCores, "a fourth addCore(1)", STATE, x -> x.addCore(1));
        checks.refused(CoresTest::threeCores, "a fourth addCore(4)", STATE, x -> x.addCore(4));
    }

    private static void setLimit() {
        TaskKernel x = new TaskKernel();
        checks.due("setLimit(1)", x.setLimit(1), 50);
        checks.due("setLimit(99)", x.setLimit(99), 1);
        checks.due("setLimit(99)", x.setLimit(99), 99);
        int[] wrong = {0, 100, -1, Integer.MIN_VALUE, Integer.MAX_VALUE};
        for (int limit : wrong) {
            checks.refused(CoresTest::threeCores, "setLimit " + limit, ARGUMENT, k -> k.setLimit(limit));
        }
        checks.due("setLimit(50)", x.setLimit(50), 99);
    }

    private static void setCap() {
        TaskKernel x = new TaskKernel();
        checks.due("setCap(0)", x.setCap(0), 12);
        checks.due("setCap(12)", x.setCap(12), 0);
        checks.due("setCap(7)", x.setCap(7), 12);
        int[] wrong = {-1, 13, Integer.MIN_VALUE, Integer.MAX_VALUE};
        for (int cap : wrong) {
            checks.refused(CoresTest::threeCores, "setCap " + cap, ARGUMENT, k -> k.setCap(cap));
        }
        checks.due("setCap(7)", x.setCap(7), 7);
    }

    private static void capAndRest() {
        TaskKernel x = threeCores();
        x.addPlain(0, 1, 100);
        x.addPlain(0, 1, 100);
        x.addPlain(0, 1, 100);
        x.setCap(5);
        checks.due("choice(0)", x.choice(0), 0);
        checks.due("choice(1): 4 and 3 are more than 5", x.choice(1), -1);
        checks.due("choice(2): 4 and 1 are 5", x.choice(2), 1);
        x.setCap(3);
        checks.due("choice(0): 4 is more than 3", x.choice(0), -1);
        checks.due("choice(1): 3 is 3", x.choice(1), 0);
        checks.due("choice(2): 3 and 1 are more than 3", x.choice(2), -1);
        x.setCap(0);
        checks.due("pass(2)", x.pass(2), 0);
        checks.due("usedShare", x.usedShare(), 0.0f);
        x.setCap(8);
        checks.due("pass(1)", x.pass(1), 8);
    }

    private static void heat() {
        TaskKernel x = new TaskKernel();
        x.addCore(4);
        x.addPlain(0, 1, 9);
        checks.due("heat(0)", x.heat(0), 0);
        x.pass(1);
        checks.due("heat(0) after 4 units", x.heat(0), 4);
        x.pass(2);
        checks.due("heat(0) grows by the pace, not by the units done", x.heat(0), 12);
        x.pass(1);
        checks.due("heat(0) after a rest", x.heat(0), 9);
        x.pass(3);
        checks.due("heat(0) after 4 rests", x.heat(0), 0);
        x.pass(1);
        checks.due("heat(0) is not below 0", x.heat(0), 0);
        x.addPlain(0, 1, 1);
        x.pass(2);
        checks.due("heat(0) 4 less 3", x.heat(0), 1);
        x.pass(1);
        checks.due("heat(0) from 1 to 0", x.heat(0), 0);
        int[] wrong = {-1, 3, Integer.MIN_VALUE, Integer.MAX_VALUE};
        for (int core : wrong) {
            checks.refused(CoresTest::threeCores, "heat " + core, INDEX, k -> k.heat(core));
        }
        checks.thrown("heat(1)", INDEX, () -> x.heat(1));
    }

    private static void heatUnderTheCap() {
        TaskKernel x = threeCores();
        x.addPlain(0, 1, 100);
        x.addPlain(0, 1, 100);
        x.addPlain(0, 1, 100);
        x.pass(3);
        checks.due("heat(0)", x.heat(0), 12);
        checks.due("heat(1)", x.heat(1), 9);
        checks.due("heat(2)", x.heat(2), 3);
        x.setCap(5);
        x.pass(1);
        checks.due("heat(0)", x.heat(0), 16);
        checks.due("heat(1)", x.heat(1), 6);
        checks.due("heat(2)", x.heat(2), 4);
    }

    private static void pace() {
        TaskKernel x = threeCores();
        x.addPlain(0, 1, 100);
        x.addPlain(0, 1, 100);
        x.addPlain(0, 1, 100);
        x.setLimit(4);
        checks.due("pace(0)", x.pace(0), 4);
        checks.due("pass(1)", x.pass(1), 8);
        checks.due("pace(0) at heat 4", x.pace(0), 2);
        checks.due("pace(1) at heat 3", x.pace(1), 3);
        checks.due("pace(2) at heat 1", x.pace(2), 1);
        x.setLimit(3);
        checks.due("pace(1) is half of 3, rounded up", x.pace(1), 2);
        x.setLimit(1);
        checks.due("pace(2) is half of 1, rounded up", x.pace(2), 1);
        // The task 2 is first now and moves to the core 0, the task 0 is last and moves to the core 2.
        checks.due("the hot cores do 2 less 1, 2, and 1 less 1", x.pass(1), 3);
        checks.due("heat(0) grows by the lower pace", x.heat(0), 6);
        checks.due("heat(1)", x.heat(1), 5);
        checks.due("heat(2)", x.heat(2), 2);
        x.setLimit(6);
        checks.due("pace(0) at the limit", x.pace(0), 2);
        x.setLimit(7);
        checks.due("pace(0) below the limit", x.pace(0), 4);
        x.setLimit(1);
        x.setCap(4);
        checks.due("the lower paces count for the cap", x.choice(1) >= 0, true);
        checks.due("but no more than the cap", x.choice(2), -1);
        checks.due("the promise is of speeds", x.promise(), 4);
        x.setCap(12);
        checks.due("the promise is of speeds", x.promise(), 8);
        int[] wrong = {-1, 3, Integer.MIN_VALUE, Integer.MAX_VALUE};
        for (int core : wrong) {
            checks.refused(CoresTest::threeCores, "pace " + core, INDEX, k -> k.pace(core));
        }
    }
}
