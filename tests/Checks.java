import java.util.Objects;

/** Counts tests; a test fails if one of its checks does. */
final class Checks {
    interface Call {
        Object answer();
    }

    interface Maker {
        TaskKernel make();
    }

    interface Use {
        Object on(TaskKernel x);
    }

    private int passed = 0;
    private int failed = 0;
    private boolean good = true;
    private String name = "";

    void test(String title, Runnable body) {
        name = title;
        good = true;
        try {
            body.run();
        } catch (RuntimeException | Error e) {
            wrong("ended with " + e);
        }
        if (good) {
            passed++;
        } else {
            failed++;
        }
    }

    void due(String what, Object got, Object want) {
        if (!Objects.equals(got, want)) {
            wrong(what + " answered " + got + ", due is " + want);
        }
    }

    /** The call throws exactly this exception, and by a throw statement of the class itself. */
    void thrown(String what, Class<? extends RuntimeException> want, Call call) {
        Object got;
        try {
            got = call.answer();
        } catch (RuntimeException e) {
            got = kindOf(e);
        }
        due(what, got, want);
    }

    /** The class of what the TaskKernel threw, or a text that says who else threw it. */
    static Object kindOf(Throwable thrown) {
        StackTraceElement[] trace = thrown.getStackTrace();
        if (trace.length == 0 || !trace[0].getClassName().startsWith("TaskKernel")) {
            return thrown + " that the class did not throw itself";
        }
        return thrown.getClass();
    }

    /**
     * The call throws exactly this exception and changes nothing: all that can be asked is as on a
     * twin without the call, at once and after the same further calls on both. Each call is tried
     * on an object of its own, as one object is good for 512 calls only.
     */
    void refused(Maker maker, String what, Class<? extends RuntimeException> want, Use use) {
        TaskKernel x = maker.make();
        TaskKernel twin = maker.make();
        thrown(what, want, () -> use.on(x));
        due("the state after " + what, Picture.of(x), Picture.of(twin));
        due("the calls after " + what, Picture.ofGoingOn(x), Picture.ofGoingOn(twin));
    }

    /** The call answers, whatever it answers. */
    void allowed(Maker maker, String what, Use use) {
        TaskKernel x = maker.make();
        try {
            use.on(x);
        } catch (RuntimeException e) {
            wrong(what + " ended with " + e);
        }
    }

    /** Both ways of choosing answer this task. */
    void chosen(TaskKernel x, String what, int core, int task) {
        due(what + ": choice " + core, x.choice(core), task);
        due(what + ": choiceByComparing " + core, x.choiceByComparing(core), task);
    }

    /** What both ways of choosing answer for the cores, in their order. */
    void choices(TaskKernel x, String what, int... tasks) {
        for (int core = 0; core < tasks.length; core++) {
            chosen(x, what, core, tasks[core]);
        }
    }

    void finish() {
        System.out.println(passed + " passed, " + failed + " failed");
        if (failed > 0) {
            System.exit(1);
        }
    }

    private void wrong(String text) {
        good = false;
        System.out.println(name + ": " + text);
    }
}
