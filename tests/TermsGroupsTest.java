import java.util.NoSuchElementException;

/** "Terms", Groups and tasks: a test for each sentence that names a boundary. */
public final class TermsGroupsTest {
    private static final Class<IllegalStateException> STATE = IllegalStateException.class;
    private static final Class<IndexOutOfBoundsException> INDEX = IndexOutOfBoundsException.class;
    /** 4 units by the weights 1 to 9. */
    private static final long[] FOUR_UNITS =
            {10080, 5040, 3360, 2520, 2016, 1680, 1440, 1260, 1120};

    private static final Checks checks = new Checks();

    public static void main(String[] args) {
        test("at most 6 groups, numbered from 0", TermsGroupsTest::sixGroups);
        test("the group 0 is there from the beginning", TermsGroupsTest::groupZero);
        test("a parent is a group with a lower number", TermsGroupsTest::parents);
        test("a group has a weight from 1 to 9", TermsGroupsTest::groupWeights);
        test("at most 12 tasks, numbered in their order", TermsGroupsTest::twelveTasks);
        test("at most 12 tasks, ended ones included", TermsGroupsTest::endedTasksCount);
        test("a task has a weight from 1 to 9", TermsGroupsTest::taskWeights);
        test("a task is plain or timed", TermsGroupsTest::plainOrTimed);
        test("members: not the members of members", TermsGroupsTest::members);
        test("a first member begins at 0", TermsGroupsTest::noneBefore);
        test("a new member begins at the least of the tasks", TermsGroupsTest::leastTask);
        test("a new member begins at the least of the groups", TermsGroupsTest::leastGroup);
        test("the least of one member", TermsGroupsTest::oneBefore);
        test("the least of equal times", TermsGroupsTest::equalTimes);
        test("ended tasks are included", TermsGroupsTest::endedIncluded);
        test("ended tasks are included if there are no others", TermsGroupsTest::allEnded);
        test("a member's time stays when another is added", TermsGroupsTest::othersStay);
        checks.finish();
    }

    private static void test(String sentence, Runnable body) {
        checks.test("Terms, Groups and tasks: " + sentence, body);
    }

    private static void sixGroups() {
        TaskKernel x = new TaskKernel();
        for (int number = 1; number <= 5; number++) {
            checks.due("addGroup", x.addGroup(0, 1), number);
        }
        checks.due("doneIn(5)", x.doneIn(5), 0);
        checks.due("timeOfGroup(5)", x.timeOfGroup(5), 0L);
        checks.thrown("a seventh", STATE, () -> x.addGroup(0, 1));
        checks.thrown("the group 6", INDEX, () -> x.doneIn(6));
    }

    private static void groupZero() {
        checks.due("doneIn(0)", new TaskKernel().doneIn(0), 0);
        checks.due("a group in it", new TaskKernel().addGroup(0, 1), 1);
        checks.due("a task in it", new TaskKernel().addPlain(0, 1, 1), 0);
        checks.due("a timed task in it", Kernels.cores(1).addTimed(0, 1, 2, 1), 0);
        checks.refused(TaskKernel::new, "its time", INDEX, x -> x.timeOfGroup(0));
    }

    private static TaskKernel chain(int groups) {
        TaskKernel x = new TaskKernel();
        for (int number = 1; number < groups; number++) {
            x.addGroup(number - 1, 1);
        }
        return x;
    }

    private static void parents() {
        for (int i = 1; i <= 5; i++) {
            int number = i;
            Checks.Maker maker = () -> chain(number);
            checks.due("the lowest", maker.make().addGroup(0, 1), number);
            checks.due("the number just below", maker.make().addGroup(number - 1, 1), number);
            checks.refused(maker, "its own number, " + i, INDEX, x -> x.addGroup(number, 1));
            checks.refused(maker, "the number just above, " + i, INDEX,
                    x -> x.addGroup(number + 1, 1));
            checks.refused(maker, "below 0", INDEX, x -> x.addGroup(-1, 1));
        }
    }

    private static void groupWeights() {
        for (int weight = 1; weight <= 9; weight++) {
            TaskKernel x = Kernels.cores(4);
            x.addGroup(0, weight);
            x.addPlain(1, 1, 500);
            x.pass(1);
            checks.due("the weight " + weight, x.timeOfGroup(1), FOUR_UNITS[weight - 1]);
            checks.due("that of the task stays 1", x.timeOf(0), 10080L);
        }
    }

    private static void twelveTasks() {
        TaskKernel x = Kernels.cores(4);
        x.addGroup(0, 1);
        for (int number = 0; number < 12; number += 2) {
            checks.due("a plain one", x.addPlain(number / 6, 1, 1 + number), number);
            checks.due("a timed one", x.addTimed(number / 6, 1, 60, 2 + number), number + 1);
        }
        for (int number = 0; number < 12; number++) {
            checks.due("left of " + number, x.left(number), 1 + number);
        }
        checks.thrown("a plain one more", STATE, () -> x.addPlain(0, 1, 1));
        checks.thrown("a timed one more", STATE, () -> x.addTimed(0, 1, 60, 1));
        checks.thrown("the task 12", NoSuchElementException.class, () -> x.left(12));
    }

    private static void endedTasksCount() {
        TaskKernel x = Kernels.cores(4);
        for (int number = 0; number < 12; number++) {
            checks.due("the number", x.addTimed(0, 1, 60, 1), number);
            x.end(number);
        }
        checks.thrown("a plain one more", STATE, () -> x.addPlain(0, 1, 1));
        checks.thrown("a timed one more", STATE, () -> x.addTimed(0, 1, 60, 1));
        checks.due("stateOf(0)", x.stateOf(0), 'e');
        checks.due("stateOf(11)", x.stateOf(11), 'e');
    }

    private static void taskWeights() {
        for (int weight = 1; weight <= 9; weight++) {
            TaskKernel x = Kernels.cores(4, 4);
            x.addPlain(0, weight, 500);
            x.addTimed(0, weight, 60, 40);
            x.pass(1);
            checks.due("plain, " + weight, x.timeOf(0), FOUR_UNITS[weight - 1]);
            checks.due("timed, " + weight, x.timeOf(1), FOUR_UNITS[weight - 1]);
        }
    }

    private static void plainOrTimed() {
        TaskKernel x = Kernels.plain(Kernels.cores(1), 1, 1);
        x.addTimed(0, 1, 2, 1);
        checks.thrown("a plain one", UnsupportedOperationException.class, () -> x.deadlineOf(0));
        checks.due("a timed one", x.deadlineOf(1), 2);
        x.pass(8);
        checks.due("a plain one is never released", x.left(0), 0);
        checks.due("doneBy(0)", x.doneBy(0), 1);
        checks.due("missesOf(0)", x.missesOf(0), 0);
    }

    /** The groups 1 in 0 and 2 in 1, the task 0 in 1; group 1 and task 0 at 10080, group 2 at 0. */
    private static TaskKernel nested() {
        TaskKernel x = Kernels.cores(4);
        x.addGroup(0, 1);
        x.addGroup(1, 1);
        x.addPlain(1, 1, 4);
        x.pass(1);
        return x;
    }

    private static void members() {
        TaskKernel x = nested();
        x.addPlain(0, 1, 1);
        checks.due("of 0: group 1 at 10080, not group 2 at 0", x.timeOf(1), 10080L);
        x.addPlain(1, 1, 1);
        checks.due("of 1: group 2 at 0, task 0 at 10080", x.timeOf(2), 0L);
        x.addPlain(2, 1, 1);
        checks.due("of 2: none", x.timeOf(3), 0L);
        TaskKernel y = nested();
        y.addGroup(0, 1);
        checks.due("a group of 0", y.timeOfGroup(3), 10080L);
        y.addGroup(1, 1);
        checks.due("a group of 1", y.timeOfGroup(4), 0L);
        y.addGroup(3, 1);
        checks.due("a group of 3", y.timeOfGroup(5), 0L);
    }

    private static void noneBefore() {
        TaskKernel x = nested();
        x.addPlain(2, 1, 1);
        checks.due("a plain task", x.timeOf(1), 0L);
        TaskKernel y = nested();
        y.addTimed(2, 1, 60, 1);
        checks.due("a timed task", y.timeOf(1), 0L);
        TaskKernel z = nested();
        z.addGroup(2, 1);
        checks.due("a group", z.timeOfGroup(3), 0L);
        TaskKernel fresh = Kernels.inTick(900, Kernels.cores(1));
        fresh.addPlain(0, 1, 1);
        checks.due("the tick does not matter", fresh.timeOf(0), 0L);
    }

    /** In the group 0: group 1 at 10080, group 2 at 5040, task 2 at 2520, task 3 at 1260. */
    private static TaskKernel fourMembers() {
        TaskKernel x = Kernels.cores(4);
        x.addGroup(0, 1);
        x.addGroup(0, 2);
        x.addPlain(1, 1, 4);
        x.addPlain(2, 1, 4);
        x.addPlain(0, 4, 4);
        x.addPlain(0, 8, 4);
        x.pass(4);
        return x;
    }

    private static void leastTask() {
        TaskKernel x = fourMembers();
        checks.due("timeOfGroup(1)", x.timeOfGroup(1), 10080L);
        checks.due("timeOfGroup(2)", x.timeOfGroup(2), 5040L);
        checks.due("timeOf(2)", x.timeOf(2), 2520L);
        checks.due("timeOf(3)", x.timeOf(3), 1260L);
        x.addPlain(0, 1, 1);
        checks.due("a plain task", x.timeOf(4), 1260L);
        TaskKernel y = fourMembers();
        y.addTimed(0, 1, 60, 1);
        checks.due("a timed task", y.timeOf(4), 1260L);
        TaskKernel z = fourMembers();
        z.addGroup(0, 1);
        checks.due("a group", z.timeOfGroup(3), 1260L);
    }

    /** In the group 0: group 1 at 2520, group 2 at 1260, task 2 at 10080. */
    private static TaskKernel lightTask() {
        TaskKernel x = Kernels.cores(4);
        x.addGroup(0, 4);
        x.addGroup(0, 8);
        x.addPlain(1, 1, 4);
        x.addPlain(2, 1, 4);
        x.addPlain(0, 1, 4);
        x.pass(3);
        return x;
    }

    private static void leastGroup() {
        TaskKernel x = lightTask();
        checks.due("timeOfGroup(1)", x.timeOfGroup(1), 2520L);
        checks.due("timeOfGroup(2)", x.timeOfGroup(2), 1260L);
        checks.due("timeOf(2)", x.timeOf(2), 10080L);
        x.addPlain(0, 1, 1);
        checks.due("a plain task", x.timeOf(3), 1260L);
        TaskKernel y = lightTask();
        y.addTimed(0, 1, 60, 1);
        checks.due("a timed task", y.timeOf(3), 1260L);
        TaskKernel z = lightTask();
        z.addGroup(0, 1);
        checks.due("a group", z.timeOfGroup(3), 1260L);
    }

    private static void oneBefore() {
        TaskKernel x = Kernels.plain(Kernels.cores(4), 1, 500);
        x.pass(3);
        x.addPlain(0, 9, 1);
        checks.due("the time of the only task", x.timeOf(1), 30240L);
        TaskKernel y = Kernels.cores(4);
        y.addGroup(0, 1);
        y.addPlain(1, 1, 500);
        y.pass(3);
        y.addPlain(0, 9, 1);
        checks.due("the time of the only group", y.timeOf(1), 30240L);
    }

    private static void equalTimes() {
        TaskKernel x = Kernels.cores(4, 4);
        x.addGroup(0, 1);
        x.addPlain(1, 1, 4);
        x.addPlain(0, 1, 4);
        x.pass(1);
        x.addPlain(0, 1, 1);
        checks.due("of a group and a task at 10080", x.timeOf(2), 10080L);
    }

    private static void endedIncluded() {
        TaskKernel x = Kernels.plain(Kernels.cores(4, 4), 2, 500);
        x.addPlain(0, 9, 4);
        // The tasks 0 and 1 at 10080, then the task 2, of the weight 9, at 1120.
        x.pass(2);
        checks.due("timeOf(2)", x.timeOf(2), 1120L);
        x.end(2);
        x.addPlain(0, 1, 1);
        checks.due("the least is that of an ended task", x.timeOf(3), 1120L);
    }

    private static void allEnded() {
        TaskKernel x = Kernels.plain(Kernels.cores(4, 4), 2, 500);
        x.pass(1);
        x.end(0);
        x.end(1);
        x.addPlain(0, 1, 1);
        checks.due("not 0, as of none", x.timeOf(2), 10080L);
    }

    private static void othersStay() {
        TaskKernel x = fourMembers();
        x.addPlain(0, 1, 1);
        x.addGroup(0, 1);
        checks.due("timeOfGroup(1)", x.timeOfGroup(1), 10080L);
        checks.due("timeOfGroup(2)", x.timeOfGroup(2), 5040L);
        checks.due("timeOf(2)", x.timeOf(2), 2520L);
        checks.due("timeOf(3)", x.timeOf(3), 1260L);
    }
}
