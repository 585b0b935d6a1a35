import java.util.NoSuchElementException;

/** Everything that can be asked of a TaskKernel, as one text. */
final class Picture {
    private final StringBuilder text = new StringBuilder();

    static String of(TaskKernel x) {
        Picture picture = new Picture();
        picture.whole(x);
        picture.cores(x);
        picture.groups(x);
        picture.tasks(x);
        picture.locks(x);
        return picture.text.toString();
    }

    /** What further calls answer, and everything that can be asked after them. */
    static String ofGoingOn(TaskKernel x) {
        Picture picture = new Picture();
        picture.put("release", () -> x.release(0));
        picture.put("take", () -> x.take(0, 1));
        picture.put("pass", () -> x.pass(3));
        picture.put("addCore", () -> x.addCore(1));
        picture.put("addGroup", () -> x.addGroup(0, 1));
        picture.put("addPlain", () -> x.addPlain(0, 1, 9));
        picture.put("addTimed", () -> x.addTimed(0, 1, 10, 1));
        picture.put("pass", () -> x.pass(1));
        picture.text.append(of(x));
        return picture.text.toString();
    }

    private void put(String what, Checks.Call call) {
        Object got;
        try {
            got = call.answer();
        } catch (RuntimeException e) {
            got = e.getClass().getSimpleName();
        }
        text.append(what).append('=').append(got).append(' ');
    }

    private void whole(TaskKernel x) {
        int limit = x.setLimit(50);
        x.setLimit(limit);
        int cap = x.setCap(12);
        x.setCap(cap);
        text.append("limit=").append(limit).append(" cap=").append(cap).append(' ');
        put("now", x::now);
        put("moves", x::moves);
        put("misses", x::misses);
        put("admitted", x::admitted);
        put("promise", x::promise);
        put("usedShare", x::usedShare);
        put("meanHeat", x::meanHeat);
        put("isSound", x::isSound);
    }

    private void cores(TaskKernel x) {
        try {
            for (int core = 0; core < 4; core++) {
                int c = core;
                text.append("\ncore ").append(c).append(": heat=").append(x.heat(c)).append(' ');
                put("pace", () -> x.pace(c));
                put("choice", () -> x.choice(c));
                put("choiceByComparing", () -> x.choiceByComparing(c));
            }
        } catch (IndexOutOfBoundsException e) {
            text.append("none");
        }
    }

    private void groups(TaskKernel x) {
        try {
            for (int group = 0; group < 7; group++) {
                int g = group;
                text.append("\ngroup ").append(g).append(": done=").append(x.doneIn(g)).append(' ');
                put("time", () -> x.timeOfGroup(g));
            }
        } catch (IndexOutOfBoundsException e) {
            text.append("none");
        }
    }

    private void tasks(TaskKernel x) {
        try {
            for (int task = 0; task < 13; task++) {
                int t = task;
                text.append("\ntask ").append(t).append(": left=").append(x.left(t)).append(' ');
                put("state", () -> x.stateOf(t));
                put("time", () -> x.timeOf(t));
                put("done", () -> x.doneBy(t));
                put("deadline", () -> x.deadlineOf(t));
                put("urgency", () -> x.urgencyOf(t));
                put("misses", () -> x.missesOf(t));
            }
        } catch (NoSuchElementException e) {
            text.append("none");
        }
    }

    private void locks(TaskKernel x) {
        for (int lock = 0; lock < 4; lock++) {
            text.append("\nlock ").append(lock).append(": ").append(x.holderOf(lock)).append(" before");
            try {
                for (int i = 0; i < 12; i++) {
                    text.append(' ').append(x.waiterAt(lock, i));
                }
            } catch (NoSuchElementException e) {
                text.append(" none");
            }
        }
    }
}
