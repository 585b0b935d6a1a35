/** "Terms", Choice: a test for each sentence that names a boundary. */
public final class TermsChoiceTest {
    private static final Checks checks = new Checks();

    public static void main(String[] args) {
        test("ready: it has not ended", TermsChoiceTest::ended);
        test("ready: it does not wait", TermsChoiceTest::waits);
        test("ready: it has units left", TermsChoiceTest::unitsLeft);
        test("the cores in the order of their numbers", TermsChoiceTest::orderOfCores);
        test("rests: the sum is greater than the power cap", TermsChoiceTest::eachCap);
        test("rests: a core that rests is not in the sum", TermsChoiceTest::restsNotInSum);
        test("rests: the sum of paces, not of speeds", TermsChoiceTest::sumOfPaces);
        test("rests: each pace by its own heat", TermsChoiceTest::oneHotCore);
        test("rests: a cap of 0", TermsChoiceTest::capOfZero);
        test("rests: no task at all", TermsChoiceTest::noTask);
        test("rests: no task that was not chosen before", TermsChoiceTest::fewTasks);
        test("the one with the least urgency", TermsChoiceTest::leastUrgency);
        test("of several, the lowest-numbered one", TermsChoiceTest::equalUrgencies);
        test("if some have an urgency: before all others", TermsChoiceTest::urgentFirst);
        test("an urgency of one that is not ready", TermsChoiceTest::urgentNotReady);
        test("if none is left that has an urgency", TermsChoiceTest::urgentChosen);
        test("the least virtual time of tasks", TermsChoiceTest::leastOfTasks);
        test("the least virtual time of groups", TermsChoiceTest::leastOfGroups);
        test("the least virtual time of a group and a task", TermsChoiceTest::leastOfBoth);
        test("of several, groups come before tasks", TermsChoiceTest::groupsFirst);
        test("of several groups, the lower-numbered", TermsChoiceTest::lowerGroup);
        test("of several tasks, the lower-numbered", TermsChoiceTest::lowerTask);
        test("no group without a task", TermsChoiceTest::emptyGroups);
        test("no group whose tasks are not ready", TermsChoiceTest::idleGroups);
        test("no group whose tasks were all chosen", TermsChoiceTest::chosenGroups);
        test("a group under which there is such a task", TermsChoiceTest::under);
        test("it goes on there: through all 6 groups", TermsChoiceTest::deepest);
        test("it goes on there, by the times in there", TermsChoiceTest::timesInThere);
        test("3 cores, 6 groups, 12 tasks", TermsChoiceTest::full);
        checks.finish();
    }

    private static void test(String sentence, Runnable body) {
        checks.test("Terms, Choice: " + sentence, body);
    }

    private static void ended() {
        TaskKernel x = Kernels.plain(Kernels.cores(1), 2, 9);
        checks.due("stateOf(0)", x.stateOf(0), 'r');
        checks.chosen(x, "before", 0, 0);
        x.end(0);
        checks.due("stateOf(0)", x.stateOf(0), 'e');
        checks.chosen(x, "after its end", 0, 1);
        x.end(1);
        checks.chosen(x, "after the end of all", 0, -1);
    }

    private static void waits() {
        TaskKernel x = Kernels.plain(Kernels.cores(1), 2, 9);
        x.take(1, 0);
        x.take(0, 0);
        checks.due("stateOf(0)", x.stateOf(0), 'w');
        checks.chosen(x, "while it waits", 0, 1);
        x.release(0);
        checks.due("stateOf(0)", x.stateOf(0), 'r');
        checks.chosen(x, "when it holds the lock", 0, 0);
    }

    private static void unitsLeft() {
        TaskKernel x = Kernels.cores(1);
        x.addPlain(0, 9, 2);
        x.addPlain(0, 1, 9);
        x.addPlain(0, 1, 9);
        x.pass(3);
        checks.due("left(0)", x.left(0), 1);
        checks.due("stateOf(0)", x.stateOf(0), 'r');
        checks.chosen(x, "with one unit left, by 280", 0, 0);
        x.pass(1);
        checks.due("left(0)", x.left(0), 0);
        checks.due("stateOf(0)", x.stateOf(0), 'i');
        checks.chosen(x, "with none, in spite of 560", 0, 1);
    }

    private static void orderOfCores() {
        TaskKernel x = Kernels.plain(Kernels.cores(1, 4, 2), 3, 9);
        checks.choices(x, "not in the order of the speeds", 0, 1, 2);
        x.setCap(4);
        checks.choices(x, "the core 0 first: 1, not 1 and 4, but 1 and 2", 0, -1, 1);
    }

    private static void eachCap() {
        int[][] due = {{-1, -1, -1}, {-1, -1, 0}, {-1, 0, -1}, {-1, 0, 1}, {0, -1, -1},
            {0, -1, 1}, {0, 1, -1}, {0, 1, 2}, {0, 1, 2}};
        TaskKernel x = Kernels.plain(Kernels.cores(4, 2, 1), 3, 9);
        for (int cap = 0; cap < due.length; cap++) {
            x.setCap(cap);
            checks.choices(x, "a cap of " + cap, due[cap]);
        }
        TaskKernel y = Kernels.plain(Kernels.cores(4, 4, 4), 3, 9);
        for (int cap = 0; cap <= 12; cap++) {
            y.setCap(cap);
            checks.choices(y, "4, 8, 12 under " + cap, cap < 4 ? -1 : 0, cap < 8 ? -1 : 1,
                    cap < 12 ? -1 : 2);
        }
    }

    private static void restsNotInSum() {
        TaskKernel x = Kernels.plain(Kernels.cores(4, 3, 3), 3, 9);
        x.setCap(3);
        checks.choices(x, "4 rests, 3 does not, 3 and 3 are 6", -1, 0, -1);
        x.setCap(6);
        checks.choices(x, "4, and 4 and 3 are 7", 0, -1, -1);
        TaskKernel y = Kernels.plain(Kernels.cores(4, 3, 3), 3, 9);
        y.setCap(3);
        checks.due("3 units", y.pass(1), 3);
        checks.due("heat(0)", y.heat(0), 0);
        checks.due("heat(1)", y.heat(1), 3);
        checks.due("heat(2)", y.heat(2), 0);
    }

    private static void sumOfPaces() {
        TaskKernel x = Kernels.plain(Kernels.cores(4, 4, 4), 3, 9);
        x.setCap(8);
        checks.choices(x, "cold: 4, 8, 12", 0, 1, -1);
        x.setCap(12);
        x.pass(1);
        x.setLimit(4);
        x.setCap(6);
        checks.choices(x, "hot: 2, 4, 6", 0, 1, 2);
        x.setCap(5);
        checks.choices(x, "6 are more than 5", 0, 1, -1);
        x.setLimit(5);
        checks.choices(x, "not hot: 4, 8, 8", 0, -1, -1);
    }

    private static void oneHotCore() {
        TaskKernel x = Kernels.plain(Kernels.cores(3, 4, 1), 1, 9);
        x.pass(1);
        x.setLimit(3);
        Kernels.plain(x, 2, 9);
        checks.due("pace(0)", x.pace(0), 2);
        checks.due("pace(1)", x.pace(1), 4);
        x.setCap(6);
        checks.choices(x, "2 and 4 are 6, and 1 is too much", 0, 1, -1);
        x.setCap(5);
        checks.choices(x, "2 and 4 are too much, 2 and 1 not", 0, -1, 1);
    }

    private static void capOfZero() {
        TaskKernel x = Kernels.plain(Kernels.cores(1, 1, 1), 3, 9);
        x.addTimed(0, 1, 9, 1);
        x.setCap(0);
        checks.choices(x, "every pace is more than 0", -1, -1, -1);
        checks.due("pass(1)", x.pass(1), 0);
        x.setCap(1);
        checks.choices(x, "one is not more than 1", 3, -1, -1);
    }

    private static void noTask() {
        TaskKernel x = Kernels.cores(4, 4, 4);
        checks.choices(x, "no task", -1, -1, -1);
        for (int parent = 0; parent < 5; parent++) {
            x.addGroup(parent, 1);
        }
        checks.choices(x, "no task in 6 groups", -1, -1, -1);
        checks.due("pass(50)", x.pass(50), 0);
    }

    private static void fewTasks() {
        TaskKernel x = Kernels.plain(Kernels.cores(1, 1, 1), 1, 9);
        checks.choices(x, "one task", 0, -1, -1);
        x.addPlain(0, 1, 9);
        checks.choices(x, "two tasks", 0, 1, -1);
        x.addPlain(0, 1, 9);
        checks.choices(x, "three tasks", 0, 1, 2);
        x.addPlain(0, 1, 9);
        checks.choices(x, "four tasks", 0, 1, 2);
        x.end(0);
        x.end(1);
        checks.choices(x, "two are left", 2, 3, -1);
    }

    private static void leastUrgency() {
        TaskKernel x = Kernels.cores(4, 4, 4);
        x.addTimed(0, 1, 12, 1);
        x.addTimed(0, 1, 11, 1);
        x.addTimed(0, 1, 13, 1);
        x.addTimed(0, 1, 60, 1);
        checks.choices(x, "11, 12, 13", 1, 0, 2);
        x.end(1);
        checks.choices(x, "12, 13, 60", 0, 2, 3);
    }

    private static void equalUrgencies() {
        TaskKernel x = Kernels.cores(4, 4, 4);
        x.addGroup(0, 1);
        x.addTimed(0, 1, 13, 1);
        x.addTimed(0, 1, 12, 1);
        x.addTimed(1, 1, 12, 1);
        x.addTimed(1, 1, 12, 1);
        checks.choices(x, "the tree does not matter", 1, 2, 3);
        x.end(1);
        checks.choices(x, "then 13", 2, 3, 0);
    }

    private static void urgentFirst() {
        TaskKernel x = Kernels.plain(Kernels.cores(4), 1, 500);
        x.addTimed(0, 1, 60, 40);
        x.pass(9);
        checks.due("timeOf(1)", x.timeOf(1), 36L * 2520);
        checks.due("timeOf(0)", x.timeOf(0), 0L);
        checks.chosen(x, "in spite of its virtual time", 0, 1);
        x.pass(1);
        checks.chosen(x, "with no units left it is not urgent", 0, 0);
    }

    private static void urgentNotReady() {
        TaskKernel x = Kernels.plain(Kernels.cores(4), 2, 500);
        x.addTimed(0, 1, 60, 40);
        x.take(1, 0);
        x.take(2, 0);
        checks.chosen(x, "it waits, and its urgency is lent", 0, 1);
        x.end(1);
        checks.chosen(x, "it holds the lock", 0, 2);
        x.end(2);
        checks.chosen(x, "it has ended", 0, 0);
        // The only one with an urgency is a holder without units: none of the others has one.
        TaskKernel y = Kernels.plain(Kernels.cores(4), 2, 4);
        y.addPlain(0, 1, 500);
        y.addTimed(0, 1, 60, 40);
        y.take(1, 0);
        y.take(3, 0);
        y.pass(1);
        checks.due("urgencyOf(1)", y.urgencyOf(1), 60);
        checks.due("stateOf(1)", y.stateOf(1), 'i');
        checks.chosen(y, "down the tree", 0, 0);
    }

    private static void urgentChosen() {
        TaskKernel x = Kernels.plain(Kernels.cores(4, 4, 4), 1, 9);
        x.addGroup(0, 1);
        x.addPlain(1, 1, 9);
        x.addTimed(0, 1, 60, 9);
        checks.choices(x, "the urgent one, then the group, then the task", 2, 1, 0);
    }

    private static void leastOfTasks() {
        TaskKernel x = Kernels.cores(1);
        x.addPlain(0, 8, 9);
        x.addPlain(0, 9, 9);
        x.pass(2);
        checks.due("timeOf(0)", x.timeOf(0), 315L);
        checks.due("timeOf(1)", x.timeOf(1), 280L);
        checks.chosen(x, "280 before 315", 0, 1);
        x.pass(1);
        checks.chosen(x, "315 before 560", 0, 0);
    }

    private static void leastOfGroups() {
        TaskKernel x = Kernels.cores(1);
        x.addGroup(0, 8);
        x.addGroup(0, 9);
        x.addPlain(1, 1, 9);
        x.addPlain(2, 1, 9);
        x.pass(2);
        checks.due("timeOfGroup(1)", x.timeOfGroup(1), 315L);
        checks.due("timeOfGroup(2)", x.timeOfGroup(2), 280L);
        checks.chosen(x, "280 before 315", 0, 1);
        x.pass(1);
        checks.chosen(x, "315 before 560", 0, 0);
    }

    private static void leastOfBoth() {
        TaskKernel x = Kernels.cores(1);
        x.addGroup(0, 8);
        x.addPlain(0, 9, 9);
        x.addPlain(1, 9, 9);
        x.pass(2);
        checks.due("timeOfGroup(1)", x.timeOfGroup(1), 315L);
        checks.due("timeOf(0)", x.timeOf(0), 280L);
        checks.chosen(x, "a task at 280 before a group at 315", 0, 0);
        x.pass(1);
        checks.chosen(x, "a group at 315 before a task at 560", 0, 1);
    }

    private static void groupsFirst() {
        TaskKernel x = Kernels.plain(Kernels.cores(1), 1, 9);
        x.addGroup(0, 1);
        x.addPlain(1, 1, 9);
        checks.chosen(x, "both at 0", 0, 1);
        x.pass(1);
        checks.chosen(x, "the task at 0, the group at 2520", 0, 0);
        x.pass(1);
        checks.due("timeOf(0)", x.timeOf(0), 2520L);
        checks.due("timeOfGroup(1)", x.timeOfGroup(1), 2520L);
        checks.chosen(x, "both at 2520", 0, 1);
        x.end(1);
        checks.chosen(x, "the group without its task", 0, 0);
    }

    private static void lowerGroup() {
        TaskKernel x = Kernels.cores(1);
        x.addGroup(0, 1);
        x.addGroup(0, 1);
        x.addGroup(0, 1);
        x.addPlain(3, 1, 9);
        x.addPlain(2, 1, 9);
        x.addPlain(1, 1, 9);
        checks.chosen(x, "all at 0: the group 1", 0, 2);
        x.pass(1);
        checks.chosen(x, "2 and 3 at 0: the group 2", 0, 1);
        x.pass(2);
        checks.due("timeOfGroup(3)", x.timeOfGroup(3), 2520L);
        checks.chosen(x, "all at 2520: the group 1", 0, 2);
        x.end(2);
        checks.chosen(x, "then the group 2", 0, 1);
    }

    private static void lowerTask() {
        TaskKernel x = Kernels.plain(Kernels.cores(1), 12, 9);
        checks.chosen(x, "all at 0", 0, 0);
        x.pass(11);
        checks.chosen(x, "the last one at 0", 0, 11);
        x.pass(1);
        checks.due("timeOf(11)", x.timeOf(11), 2520L);
        checks.chosen(x, "all at 2520", 0, 0);
    }

    private static void emptyGroups() {
        TaskKernel x = Kernels.cores(1);
        x.addGroup(0, 1);
        x.addGroup(1, 1);
        x.addGroup(0, 1);
        x.addPlain(0, 1, 9);
        checks.chosen(x, "the groups 1 to 3 have no task", 0, 0);
        x.addPlain(3, 1, 9);
        checks.chosen(x, "the groups 1 and 2 have none", 0, 1);
    }

    private static void idleGroups() {
        TaskKernel x = Kernels.plain(Kernels.cores(1), 1, 9);
        x.addGroup(0, 1);
        x.addGroup(0, 1);
        x.addPlain(1, 1, 9);
        x.addPlain(2, 1, 9);
        x.take(0, 0);
        x.take(1, 0);
        checks.chosen(x, "one waits in the group 1", 0, 2);
        x.end(2);
        checks.chosen(x, "one has ended in the group 2", 0, 0);
        TaskKernel y = Kernels.plain(Kernels.cores(1), 1, 9);
        y.pass(1);
        y.addGroup(0, 9);
        y.addPlain(1, 1, 1);
        y.pass(2);
        checks.due("timeOfGroup(1)", y.timeOfGroup(1), 2800L);
        y.pass(1);
        checks.chosen(y, "the group at 2800 is done", 0, 0);
    }

    private static void chosenGroups() {
        TaskKernel x = Kernels.plain(Kernels.cores(1, 1, 1), 1, 9);
        x.addGroup(0, 1);
        x.addGroup(1, 1);
        x.addPlain(2, 1, 9);
        checks.choices(x, "the group 1 has one task", 1, 0, -1);
        x.addPlain(1, 1, 9);
        checks.choices(x, "the group 1 has two", 1, 2, 0);
    }

    private static void under() {
        TaskKernel x = Kernels.plain(Kernels.cores(1), 1, 9);
        x.addGroup(0, 1);
        x.addGroup(0, 1);
        x.addGroup(2, 1);
        x.addPlain(3, 1, 9);
        checks.chosen(x, "in 3, under 2; 1 is empty", 0, 1);
        x.addPlain(1, 1, 9);
        checks.chosen(x, "now there is one in 1", 0, 2);
    }

    private static TaskKernel deep() {
        TaskKernel x = Kernels.cores(1);
        for (int parent = 0; parent < 5; parent++) {
            x.addGroup(parent, 1);
        }
        return x;
    }

    private static void deepest() {
        TaskKernel x = deep();
        x.addPlain(5, 1, 9);
        checks.chosen(x, "the only task is in the group 5", 0, 0);
        x.addPlain(0, 1, 9);
        checks.chosen(x, "groups come before tasks", 0, 0);
        x.pass(1);
        checks.chosen(x, "the group 1 is at 2520", 0, 1);
        x.pass(1);
        checks.chosen(x, "both are", 0, 0);
        x.addPlain(4, 1, 9);
        checks.chosen(x, "a task in 4 at the time of 5", 0, 0);
        x.pass(2);
        checks.chosen(x, "the group 1 first, then the task in 4", 0, 2);
    }

    private static void timesInThere() {
        TaskKernel x = Kernels.cores(1);
        x.addGroup(0, 9);
        x.addGroup(0, 1);
        x.addPlain(1, 1, 9);
        x.addPlain(2, 9, 9);
        x.pass(2);
        checks.due("timeOf(0)", x.timeOf(0), 2520L);
        checks.due("timeOf(1)", x.timeOf(1), 280L);
        checks.chosen(x, "group 1 at 280, in spite of its task at 2520", 0, 0);
    }

    private static void full() {
        TaskKernel x = Kernels.full();
        checks.choices(x, "0 by the urgency of 6, then 7 and 8, by 60 each", 0, 7, 8);
        for (int task = 6; task < 12; task++) {
            x.end(task);
        }
        checks.choices(x, "down to the group 5, up to 4 and 3", 5, 4, 3);
        for (int task = 2; task < 6; task++) {
            x.end(task);
        }
        checks.choices(x, "the group 1, then 0", 1, 0, -1);
        checks.due("isSound", x.isSound(), true);
    }
}
