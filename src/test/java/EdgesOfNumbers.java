/** Boundaries that "Fairness" and the promises 13 to 17 name. */
final class EdgesOfNumbers {
    private static final int DIRTY = CleaningRota.DIRTY;
    private static final Run NEW = Run.of(), BUSY = Run.busy(), FULL = Run.full();

    private EdgesOfNumbers() {
    }

    static void run() {
        rate();
        spread();
        plannedSpread();
        about();
        aboutTasks();
        aboutErrors();
        room();
        roomCleaned();
        roomErrors();
        task();
        swap();
        count();
        countOfTheHouse();
        countErrors();
    }

    private static void rate() {
        Edge.of("Fairness", "The rate of a resident is 1000 * (the work done) / weight.");
        Run run = Run.weights(7).efforts(20, 1).then(CleaningRota::plan);
        Edge.is("no work done", run.ask(r -> r.about(0, 5)), 0);
        Edge.is("1 over 7", run.doTasks(1).ask(r -> r.about(0, 5)), 142);
        Edge.is("20 over 7", run.doTasks(0).ask(r -> r.about(0, 5)), 2857);
        Edge.is("21 over 7", run.doTasks(0, 1).ask(r -> r.about(0, 5)), 3000);
        Edge.is("21 over 1", run.doTasks(0, 1).then(r -> r.weigh(0, 1)).ask(r -> r.about(0, 5)), 21000);
        Edge.is("21 over 10", run.doTasks(0, 1).then(r -> r.weigh(0, 10)).ask(r -> r.about(0, 5)), 2100);
        Edge.is("a debt is no work", run.then(CleaningRota::end).ask(r -> r.about(0, 5)), 0);
    }

    private static void spread() {
        Edge.of("Fairness", "The spread is the greatest minus the least rate of all residents (0 without residents).");
        Edge.is("no residents", NEW.ask(r -> r.count(9)), 0);
        Edge.is("no residents, in a forecast", NEW.ask(r -> r.forecast(3, 0)), 0);
        Run one = Run.weights(3).efforts(20, 10).doWeeks(1);
        Edge.is("one resident", one.ask(r -> r.count(9)), 0);
        Run two = one.then(r -> r.resident(1));
        Edge.is("a second one, without work", two.ask(r -> r.count(9)), 10000);
        Edge.is("a second one, who is away", two.then(r -> r.away(1, 0, 999)).ask(r -> r.count(9)), 10000);
        Edge.is("nobody has worked", Run.weights(1, 2, 3).ask(r -> r.count(9)), 0);
        // 333.3 less 166.6 is 166.6; each of them is rounded by itself.
        Edge.is("333 less 166", Run.weights(3, 6).efforts(1, 1).doWeeks(1).ask(r -> r.count(9)), 167);
        Edge.is("the one between does not count", Run.weights(1, 1, 1).efforts(9, 8, 7).doWeeks(1).ask(r -> r.count(9)), 2000);
        Run eight = Run.weights(1, 1, 1, 1, 1, 1, 1, 1).efforts(9, 8, 7, 6, 5, 4).doWeeks(1);
        Edge.is("the last two of eight have not worked", eight.ask(r -> r.count(9)), 9000);
    }

    private static void plannedSpread() {
        Edge.of("Fairness", "The planned spread is the same with the load in place of the work done.");
        Edge.is("no residents", NEW.ask(r -> r.count(10)), 0);
        Run run = Run.weights(1, 1).efforts(9, 7).then(CleaningRota::plan);
        Edge.is("nothing is done: the spread", run.ask(r -> r.count(9)), 0);
        Edge.is("nothing is done: the planned spread", run.ask(r -> r.count(10)), 2000);
        Edge.is("one is done: the spread", run.doTasks(1).ask(r -> r.count(9)), 7000);
        Edge.is("one is done: the planned spread", run.doTasks(1).ask(r -> r.count(10)), 2000);
        Edge.is("all are done: the planned spread", run.doTasks(0, 1).ask(r -> r.count(10)), 2000);
        Edge.is("all are skipped: the planned spread", run.then(CleaningRota::end).ask(r -> r.count(10)), 0);
        Edge.is("one resident", Run.weights(1).efforts(9).then(CleaningRota::plan).ask(r -> r.count(10)), 0);
    }

    private static void about() {
        Edge.of("Promise 13", "int about(int resident, int what): Returns a number about a resident.");
        Edge.are("the first one: number", BUSY, what -> r -> r.about(0, what), 3, 11, 0, 0, 25, 3666, 1, 1, 0);
        Edge.are("the last one: number", BUSY, what -> r -> r.about(2, what), 2, 0, 2, 15, 0, 0, 0, CleaningRota.NONE, 1);
        Edge.of("Promise 13", "what: 0 the weight, 1 the work done, 2 the debt, 3 the points, 4 the load, 5 the rate, "
            + "6 the number of open tasks,");
        Edge.are("none open: number", BUSY.doTasks(1), what -> r -> r.about(0, what), 3, 25, 0, 0, 25, 8333, 0);
        Edge.are("some open: number", BUSY, what -> r -> r.about(1, what), 7, 11, 4, 15, 31, 1571, 3);
        Run all = Run.weights(2).times(6, r -> r.area(20, 1, 200)).then(r -> r.set(DIRTY, 1)).skipWeeks(1).then(CleaningRota::plan);
        Edge.are("all twelve open: number", all, what -> r -> r.about(0, what), 2, 0, 120, 90, 360, 0, 12);
    }

    private static void aboutTasks() {
        Edge.of("Promise 13", "7 the first open task (NONE if there is none),");
        Run run = Run.weights(1).efforts(5, 4, 3);
        Edge.is("not planned", run.ask(r -> r.about(0, 7)), CleaningRota.NONE);
        run = run.then(CleaningRota::plan);
        Edge.is("all are open", run.ask(r -> r.about(0, 7)), 0);
        Edge.is("the first one is done", run.doTasks(0).ask(r -> r.about(0, 7)), 1);
        Edge.is("the last one is open", run.doTasks(1, 0).ask(r -> r.about(0, 7)), 2);
        Edge.is("all are done", run.doTasks(2, 1, 0).ask(r -> r.about(0, 7)), CleaningRota.NONE);
        Edge.is("the week has ended", run.then(CleaningRota::end).ask(r -> r.about(0, 7)), CleaningRota.NONE);
        Run last = FULL.doTasks(4);
        Edge.is("the last one of twelve", last.ask(r -> r.about(4, 7)), 11);
        Edge.is("open tasks of others alone", BUSY.ask(r -> r.about(2, 7)), CleaningRota.NONE);
        Edge.of("Promise 13", "8 whether the resident is away now (1 or 0)");
        Run away = Run.weights(1).then(r -> r.away(0, 1, 2));
        int[] due = {0, 1, 1, 0};
        for (int week = 0; week < due.length; week++) {
            Edge.is("away from 1 to 2, in week " + week, away.skipWeeks(week).ask(r -> r.about(0, 8)), due[week]);
        }
    }

    private static void aboutErrors() {
        Edge.of("Promise 13", "Returns the number; NO_SUCH if there is no such resident; BAD_VALUE if what is out of range.");
        Edge.range("resident, of three", BUSY, resident -> r -> r.about(resident, 7), 0, 2, CleaningRota.NO_SUCH);
        Edge.range("resident, of eight", FULL, resident -> r -> r.about(resident, 0), 0, 7, CleaningRota.NO_SUCH);
        Edge.refusedWithoutChange("resident, of none", NEW, r -> r.about(0, 0), CleaningRota.NO_SUCH);
        Edge.range("what", BUSY, what -> r -> r.about(2, what), 0, 8, CleaningRota.BAD_VALUE);
        Edge.refused("both are wrong", BUSY, r -> r.about(-1, -1), CleaningRota.NO_SUCH);
    }

    private static void room() {
        Edge.of("Promise 14", "int room(int area, int what): Returns a number about an area.");
        Edge.are("the first one: number", BUSY, what -> r -> r.room(0, what), 11, 1, 60, 0, 0, 1, 2);
        Edge.are("the last one: number", BUSY, what -> r -> r.room(3, what), 2, 1, 0, 0, 0, 1, 0);
        Edge.of("Promise 14", "what: 0 its effort, 1 its period, 2 its growth, 3 its dirt,");
        Edge.are("the sixth one: number", FULL, what -> r -> r.room(5, what), 20, 1, 200, 200);
        Edge.of("Promise 14", "4 whether it needs a deep clean (1 or 0),");
        Edge.is("200 with DIRTY 200", BUSY.ask(r -> r.room(1, 4)), 1);
        Edge.is("200 with DIRTY 201", BUSY.then(r -> r.set(DIRTY, 201)).ask(r -> r.room(1, 4)), 0);
        Edge.is("10 with DIRTY 11", BUSY.then(r -> r.set(DIRTY, 11)).ask(r -> r.room(2, 4)), 0);
        Edge.is("10 with DIRTY 10", BUSY.then(r -> r.set(DIRTY, 10)).ask(r -> r.room(2, 4)), 1);
        Edge.is("0 with DIRTY 1", BUSY.then(r -> r.set(DIRTY, 1)).ask(r -> r.room(3, 4)), 0);
        Edge.is("not any more when it is cleaned", BUSY.doTasks(0, 1).ask(r -> r.room(1, 4)), 0);
        Edge.of("Promise 14", "5 whether it is due in the present week (1 or 0),");
        Run run = NEW.times(5, r -> r.area(1, 4, 0)).then(r -> r.area(1, 3, 0));
        Edge.are("week 0", run, area -> r -> r.room(area, 5), 1, 0, 0, 0, 1, 0);
        Edge.are("week 1", run.skipWeeks(1), area -> r -> r.room(area, 5), 0, 1, 0, 0, 0, 0);
        Edge.are("week 2", run.skipWeeks(2), area -> r -> r.room(area, 5), 0, 0, 1, 0, 0, 1);
        Edge.are("week 3", run.skipWeeks(3), area -> r -> r.room(area, 5), 0, 0, 0, 1, 0, 0);
        Edge.are("week 4", run.skipWeeks(4), area -> r -> r.room(area, 5), 1, 0, 0, 0, 1, 0);
        Edge.is("when it is planned and done", Run.weights(1).efforts(5).then(CleaningRota::plan).doTasks(0).ask(r -> r.room(0, 5)), 1);
    }

    private static void roomCleaned() {
        Edge.of("Promise 14", "6 how often it was cleaned: how often its dirt was made 0 by a task or by extra() (also if it was 0 "
            + "already)");
        Run run = Run.weights(1).then(r -> r.area(5, 1, 0), r -> r.area(20, 1, 0));
        Edge.is("not yet", run.then(CleaningRota::plan).ask(r -> r.room(0, 6)), 0);
        Edge.is("by a task, already clean", run.then(CleaningRota::plan).doTasks(1).ask(r -> r.room(0, 6)), 1);
        Edge.is("in each of three weeks", run.doWeeks(3).ask(r -> r.room(0, 6)), 3);
        Edge.is("by extra(), already clean", run.skipWeeks(1).times(3, r -> r.extra(0, 0)).ask(r -> r.room(0, 6)), 3);
        Edge.is("an end does not clean", run.skipWeeks(3).ask(r -> r.room(0, 6)), 0);
        Edge.is("a forecast does not clean", run.then(r -> {
            r.forecast(9, 0);
            return r.plan();
        }).ask(r -> r.room(0, 6)), 0);
        Edge.is("half of a deep clean does not", FULL.doTasks(0).ask(r -> r.room(0, 6)), 0);
        Edge.is("a deep clean counts once", FULL.doTasks(0, 1).ask(r -> r.room(0, 6)), 1);
        Edge.is("taken back", run.doWeeks(1).then(CleaningRota::undo, CleaningRota::undo).ask(r -> r.room(0, 6)), 0);
    }

    private static void roomErrors() {
        Edge.of("Promise 14", "Returns the number; NO_SUCH if there is no such area; BAD_VALUE if what is out of range.");
        Edge.range("area, of four", BUSY, area -> r -> r.room(area, 3), 0, 3, CleaningRota.NO_SUCH);
        Edge.range("area, of six", FULL, area -> r -> r.room(area, 3), 0, 5, CleaningRota.NO_SUCH);
        Edge.refusedWithoutChange("area, of none", NEW, r -> r.room(0, 0), CleaningRota.NO_SUCH);
        Edge.range("what", BUSY, what -> r -> r.room(3, what), 0, 6, CleaningRota.BAD_VALUE);
        Edge.refused("both are wrong", BUSY, r -> r.room(-1, -1), CleaningRota.NO_SUCH);
    }

    private static void task() {
        Edge.of("Promise 15", "int task(int task, int what): Returns a number about a task.");
        Edge.are("the first one: number", BUSY, what -> r -> r.task(0, what), 1, 1, 14, 0, 1);
        Edge.are("the last one: number", BUSY, what -> r -> r.task(4, what), 3, 1, 2, 0, 0);
        Edge.of("Promise 15", "what: 0 its area, 1 its resident, 2 its effort, 3 whether it is done, 4 whether it is a deep task "
            + "(1 or 0 each)");
        Edge.are("done and not deep: number", BUSY, what -> r -> r.task(2, what), 0, 1, 11, 1, 0);
        Edge.are("deep and done: number", BUSY.doTasks(1), what -> r -> r.task(1, what), 1, 0, 14, 1, 1);
        Edge.are("the last one of twelve: number", FULL, what -> r -> r.task(11, what), 5, 4, 30, 0, 1);
        Edge.of("Promise 15", "Returns the number; NO_SUCH if there is no such task; BAD_VALUE if what is out of range.");
        Edge.range("task, of five", BUSY, task -> r -> r.task(task, 0), 0, 4, CleaningRota.NO_SUCH);
        Edge.range("task, of twelve", FULL, task -> r -> r.task(task, 0), 0, 11, CleaningRota.NO_SUCH);
        Edge.refusedWithoutChange("task, of none", NEW, r -> r.task(0, 0), CleaningRota.NO_SUCH);
        Edge.refused("task, of a week that is not planned", Run.weights(1).efforts(5), r -> r.task(0, 0), CleaningRota.NO_SUCH);
        Edge.range("what", BUSY, what -> r -> r.task(4, what), 0, 4, CleaningRota.BAD_VALUE);
        Edge.refused("both are wrong", BUSY, r -> r.task(-1, -1), CleaningRota.NO_SUCH);
    }

    private static void swap() {
        Edge.of("Promise 16", "int swap(int swap, int what): Returns a number about a swap.");
        Edge.are("the only one: number", BUSY, what -> r -> r.swap(0, what), 3, 1, 1, 0);
        Edge.of("Promise 16", "what: 0 the first task, 1 the second one, 2 the resident who proposed it, 3 the one who has to answer");
        Edge.are("the first one: number", FULL, what -> r -> r.swap(0, what), 0, 1, 0, 1);
        Edge.are("the opposite one: number", FULL, what -> r -> r.swap(1, what), 1, 0, 1, 0);
        Edge.are("the last one of six: number", FULL, what -> r -> r.swap(5, what), 3, 0, 3, 0);
        Edge.of("Promise 16", "Returns the number; NO_SUCH if there is no such swap; BAD_VALUE if what is out of range.");
        Edge.range("swap, of one", BUSY, swap -> r -> r.swap(swap, 0), 0, 0, CleaningRota.NO_SUCH);
        Edge.range("swap, of six", FULL, swap -> r -> r.swap(swap, 0), 0, 5, CleaningRota.NO_SUCH);
        Edge.refusedWithoutChange("swap, of none", NEW, r -> r.swap(0, 0), CleaningRota.NO_SUCH);
        Edge.range("what", BUSY, what -> r -> r.swap(0, what), 0, 3, CleaningRota.BAD_VALUE);
        Edge.refused("both are wrong", BUSY, r -> r.swap(-1, -1), CleaningRota.NO_SUCH);
    }

    private static void count() {
        Edge.of("Promise 17", "int count(int what): Returns a number about the house.");
        Edge.are("number", BUSY, what -> r -> r.count(what), 1, 3, 4, 5, 4, 2, 2, 1, 1, 3666, 8333, 5, 6, 20, 25, 3, 200);
        Edge.of("Promise 17", "what: 0 the present week, 1 residents, 2 areas, 3 tasks, 4 tasks that are open, 5 all tasks that were "
            + "done, of all weeks, 6 all that were skipped, 7 swaps, 8 whether the week is planned (1 or 0),");
        Edge.are("in a new house: number", NEW, what -> r -> r.count(what), 0, 0, 0, 0, 0, 0, 0, 0, 0);
        Edge.are("in a full house: number", FULL, what -> r -> r.count(what), 1, 8, 6, 12, 12, 0, 6, 6, 1);
        Edge.are("all done: number", FULL.doTasks(0, 1, 2, 3, 4, 5, 6, 7, 8, 9, 10, 11), what -> r -> r.count(what),
            1, 8, 6, 12, 0, 12, 6, 0, 1);
        Edge.are("ended: number", FULL.doTasks(0).then(CleaningRota::end), what -> r -> r.count(what), 2, 8, 6, 0, 0, 1, 17, 0, 0);
        Edge.is("extra() does no task", Run.weights(1).efforts(5).skipWeeks(1).then(r -> r.extra(0, 0)).ask(r -> r.count(5)), 0);
    }

    private static void countOfTheHouse() {
        Edge.of("Promise 17", "9 the spread, 10 the planned spread,");
        Edge.is("the spread of a new house", NEW.ask(r -> r.count(9)), 0);
        Edge.is("the planned spread of a new house", NEW.ask(r -> r.count(10)), 0);
        Run run = Run.weights(1, 1).efforts(5).then(CleaningRota::plan);
        Edge.is("open: the spread", run.ask(r -> r.count(9)), 0);
        Edge.is("open: the planned spread", run.ask(r -> r.count(10)), 5000);
        Edge.is("done: the spread", run.doTasks(0).ask(r -> r.count(9)), 5000);
        Edge.of("Promise 17", "11 the length of the pad,");
        Edge.is("empty", NEW.ask(r -> r.count(11)), 0);
        Edge.is("one character", NEW.pad("1").ask(r -> r.count(11)), 1);
        Edge.is("full", FULL.ask(r -> r.count(11)), 60);
        Edge.is("a call behind the full one", FULL.then(Run.put("1")).ask(r -> r.count(11)), 60);
        Edge.of("Promise 17", "12 how many states can be undone,");
        for (int changes = 0; changes <= 8; changes++) {
            Edge.is("after " + changes + " changes", NEW.times(changes, r -> r.set(0, 1)).ask(r -> r.count(12)), Math.min(6, changes));
        }
        for (int times = 0; times <= 7; times++) {
            Edge.is("after " + times + " times undo()", FULL.times(times, CleaningRota::undo).ask(r -> r.count(12)),
                Math.max(0, 6 - times));
        }
        Edge.of("Promise 17", "13 to 16 the settings");
        Edge.are("the least: setting", NEW.then(r -> r.set(0, 0), r -> r.set(1, 0), r -> r.set(2, 2), r -> r.set(3, 1)),
            setting -> r -> r.count(13 + setting), 0, 0, 2, 1);
        Edge.are("the greatest: setting", NEW.then(r -> r.set(0, 100), r -> r.set(1, 100), r -> r.set(2, 6), r -> r.set(3, 1000)),
            setting -> r -> r.count(13 + setting), 100, 100, 6, 1000);
    }

    private static void countErrors() {
        Edge.of("Promise 17", "Returns the number; BAD_VALUE if what is out of range.");
        Edge.range("what", BUSY, what -> r -> r.count(what), 0, 16, CleaningRota.BAD_VALUE);
        Edge.refusedWithoutChange("what, in a new house", NEW, r -> r.count(17), CleaningRota.BAD_VALUE);
    }
}
