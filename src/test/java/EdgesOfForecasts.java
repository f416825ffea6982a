/** Boundaries that the promises 18 and 19 name. */
final class EdgesOfForecasts {
    private static final int DIRTY = CleaningRota.DIRTY;
    private static final Run NEW = Run.of(), BUSY = Run.busy(), FULL = Run.full();

    private EdgesOfForecasts() {
    }

    static void run() {
        nothingChanges();
        forecastOfWeeks();
        longestForecast();
        lastWeek();
        forecastNumbers();
        forecastErrors();
        fairer();
        fairerOpenTasks();
        fairerOfSeveral();
        fairerErrors();
    }

    private static void nothingChanges() {
        Edge.of("Texts", "Ahead of the calls forecast, fairer the interface says: ---- forecasts; nothing changes.");
        for (Run run : new Run[] {NEW, BUSY, FULL, BUSY.then(CleaningRota::end)}) {
            Edge.sameState("behind forecast(60, 0)", run.then(r -> r.forecast(60, 0)), run);
            Edge.sameState("behind forecast(0, 3)", run.then(r -> r.forecast(0, 3)), run);
            Edge.sameState("behind fairer(0)", run.then(r -> r.fairer(0)), run);
            Edge.sameState("behind forecast(60, 1) and undo()", run.then(r -> r.forecast(60, 1), CleaningRota::undo),
                run.then(CleaningRota::undo));
            Edge.sameState("behind fairer(2) and undo()", run.then(r -> r.fairer(2), CleaningRota::undo), run.then(CleaningRota::undo));
        }
    }

    private static void forecastIs(String what, Run run, int weeks, int... due) {
        Edge.are(what + ": forecast of " + weeks + " weeks: number", run, number -> r -> r.forecast(weeks, number), due);
    }

    private static void forecastOfWeeks() {
        Edge.of("Promise 18", "int forecast(int weeks, int what): Forecasts some weeks: the present week is planned, if it is not, and "
            + "all open tasks are done in ascending order; it ends; and so on.");
        Run run = Run.weights(1, 1).then(r -> r.area(5, 1, 3), r -> r.area(4, 1, 2));
        forecastIs("not planned", run, 1, 1000, 2, 0, 3);
        forecastIs("planned", run.then(CleaningRota::plan), 1, 1000, 2, 0, 3);
        forecastIs("one of two is done", run.then(CleaningRota::plan).doTasks(0), 1, 1000, 1, 0, 3);
        forecastIs("all are done", run.then(CleaningRota::plan).doTasks(0, 1), 1, 1000, 0, 0, 3);
        forecastIs("all are done, and so on", run.then(CleaningRota::plan).doTasks(0, 1), 2, 0, 2, 0, 3);
        forecastIs("planned without the area that came then", run.then(CleaningRota::plan).efforts(9), 1, 1000, 2, 0, 3);
        forecastIs("planned when all were away", run.then(r -> r.away(0, 0, 0), r -> r.away(1, 0, 0), CleaningRota::plan), 1,
            0, 0, 0, 3);
        forecastIs("planned when all were away, and so on", run.then(r -> r.away(0, 0, 0), r -> r.away(1, 0, 0), CleaningRota::plan),
            2, 1000, 2, 0, 3);
        // Half of the deep clean of area 1 is done: the other half makes it clean.
        Run half = Run.weights(1).then(r -> r.area(1, 1, 0), r -> r.area(10, 1, 200), r -> r.set(DIRTY, 200)).skipWeeks(1)
            .then(CleaningRota::plan).doTasks(0);
        forecastIs("half of a deep clean is done", half, 1, 0, 2, 1, 200);
        forecastIs("skipped tasks of the weeks before count for nothing", run.skipWeeks(2), 0, 0, 0, 0, 6);
    }

    private static void longestForecast() {
        Edge.of("Promise 18", "weeks: 0 to 60");
        Edge.range("weeks", BUSY, weeks -> r -> r.forecast(weeks, 1), 0, 60, CleaningRota.BAD_VALUE);
        Run run = Run.weights(1).then(r -> r.area(5, 1, 0), r -> r.area(1, 2, 7), r -> r.set(DIRTY, 1000));
        forecastIs("an area each week, another one each second week", run, 0, 0, 0, 0, 0);
        forecastIs("an area each week, another one each second week", run, 1, 0, 1, 0, 7);
        forecastIs("an area each week, another one each second week", run, 59, 0, 59 + 29, 0, 14);
        forecastIs("an area each week, another one each second week", run, 60, 0, 60 + 30, 0, 7);
        forecastIs("the dirt is 1000 at most", Run.of(r -> r.area(1, 1, 17)), 58, 0, 0, 0, 986);
        forecastIs("the dirt is 1000 at most", Run.of(r -> r.area(1, 1, 17)), 59, 0, 0, 0, 1000);
    }

    /** No object gets there in the 512 calls that are promised; the words hold all the same. */
    private static void lastWeek() {
        Edge.of("Promise 18", "(it ends earlier, if the week 999 begins; that one is not planned any more)");
        Run run = Run.weights(1).efforts(1);
        int[][] due = {{938, 60}, {939, 60}, {940, 59}, {998, 1}, {999, 0}};
        for (int[] one : due) {
            CleaningRota rota = run.skipWeeks(one[0]).play();
            Edge.is("60 weeks from " + one[0] + " on", rota.forecast(60, 1), one[1]);
            Edge.is("the week stays", rota.count(0), one[0]);
        }
        CleaningRota planned = run.skipWeeks(999).then(CleaningRota::plan).play();
        Edge.is("from the week 999 on, when it is planned", planned.forecast(60, 1), 0);
    }

    private static void forecastNumbers() {
        Edge.of("Promise 18", "what: 0 the spread then, 1 the tasks that the forecast does, 2 the deep tasks among them, 3 the greatest "
            + "dirt of an area then (0 without areas)");
        forecastIs("no areas, no residents", NEW, 0, 0, 0, 0, 0);
        forecastIs("no areas, no residents", NEW, 60, 0, 0, 0, 0);
        forecastIs("no areas", Run.weights(1, 2), 60, 0, 0, 0, 0);
        forecastIs("no residents", Run.of(r -> r.area(5, 1, 3)), 60, 0, 0, 0, 180);
        forecastIs("the present week", BUSY, 0, 3666, 0, 0, 200);
        // Work 11|11|0 becomes 25|31|0 over 3|7|2; areas 0 and 2 were clean after all was done.
        forecastIs("the week to its end", BUSY, 1, 8333, 4, 2, 200);
        forecastIs("tasks that were done ahead of it do not count", BUSY.doTasks(0), 1, 8333, 3, 1, 200);
        Run dirty = Run.weights(1).times(6, r -> r.area(1, 1, 200)).then(r -> r.set(DIRTY, 1));
        forecastIs("twelve deep tasks a week, but in the first one", dirty, 60, 0, 6 + 59 * 12, 59 * 12, 200);
        forecastIs("the greatest dirt is that of the last area", Run.of(r -> r.area(1, 1, 1), r -> r.area(1, 1, 2)), 5, 0, 0, 0, 10);
    }

    private static void forecastErrors() {
        Edge.of("Promise 18", "Returns the number; BAD_VALUE if an argument is out of range.");
        Edge.range("what", BUSY, what -> r -> r.forecast(60, what), 0, 3, CleaningRota.BAD_VALUE);
        Edge.refusedOutside("weeks, with what 0", FULL, weeks -> r -> r.forecast(weeks, 0), 0, 60, CleaningRota.BAD_VALUE);
        Edge.refused("what, without weeks", FULL, r -> r.forecast(0, 4), CleaningRota.BAD_VALUE);
        Edge.refused("both are wrong", FULL, r -> r.forecast(61, -1), CleaningRota.BAD_VALUE);
        Edge.refusedWithoutChange("in a new house", NEW, r -> r.forecast(-1, 0), CleaningRota.BAD_VALUE);
    }

    private static void fairerIs(String what, Run run, int... due) {
        Edge.are(what + ": number", run, number -> r -> r.fairer(number), due);
    }

    private static void noneIsFairer(String what, Run run) {
        fairerIs(what, run, CleaningRota.NONE, CleaningRota.NONE, CleaningRota.NONE);
    }

    private static void fairer() {
        Edge.of("Promise 19", "int fairer(int what): Finds the swap of two open tasks of different residents with which the planned "
            + "spread would be least, if it would be less than now.");
        // 20 over 2 and 20 over 3; with the swap 12 over 2 and 28 over 3.
        Run one = Run.weights(2, 3).efforts(20, 12, 8).then(CleaningRota::plan);
        Edge.is("1 less: now", one.ask(r -> r.count(10)), 3334);
        fairerIs("1 less", one, 0, 1, 3333);
        Run same = Run.weights(1, 1).efforts(9, 8).then(CleaningRota::plan);
        Edge.is("the same: now", same.ask(r -> r.count(10)), 1000);
        noneIsFairer("the same", same);
        noneIsFairer("more", Run.weights(1, 1).efforts(5, 4, 1).then(CleaningRota::plan));
        Run best = Run.weights(1, 2).efforts(9, 8, 6).then(CleaningRota::plan);
        fairerIs("the best of two", best, 0, 1, 500);
        Run swapped = best.then(r -> r.propose(0, 1), r -> r.answer(0, 1));
        Edge.is("when it is swapped: the planned spread", swapped.ask(r -> r.count(10)), 500);
        noneIsFairer("when it is swapped", swapped);
        // Resident 2 has no task, and nothing done: the spread is that of the greatest one.
        Run idle = Run.weights(1, 2, 1).efforts(9, 8, 6).then(r -> r.away(2, 0, 0), CleaningRota::plan);
        fairerIs("one has no task", idle, 0, 1, 8000);
    }

    private static void fairerOpenTasks() {
        Run best = Run.weights(1, 2).efforts(9, 8, 6).then(CleaningRota::plan);
        noneIsFairer("not planned", Run.weights(1, 2).efforts(9, 8, 6));
        noneIsFairer("no tasks", Run.weights(1, 2).then(CleaningRota::plan));
        noneIsFairer("one task", Run.weights(1, 2).efforts(9).then(CleaningRota::plan));
        noneIsFairer("one resident", Run.weights(1).efforts(9, 8, 6).then(CleaningRota::plan));
        noneIsFairer("one has all open tasks", best.doTasks(0));
        noneIsFairer("all are done", best.doTasks(0, 1, 2));
        noneIsFairer("the second one of the best is done, and the other one is worse", best.doTasks(1));
        Run alike = Run.weights(1, 2).efforts(9, 7, 7).then(CleaningRota::plan);
        fairerIs("both are open", alike, 0, 1, 1000);
        fairerIs("the lower one of both is done", alike.doTasks(1), 0, 2, 1000);
        Run last = Run.weights(1, 1).efforts(7, 7, 6, 6, 5, 4).then(CleaningRota::plan);
        Edge.are("resident", last, task -> r -> r.task(task, 1), 0, 1, 0, 1, 0, 1);
        Run lastTwo = last.doTasks(0, 1, 2, 3).then(r -> r.weigh(1, 2));
        noneIsFairer("only the last two are open", lastTwo.then(r -> r.weigh(1, 1)));
        fairerIs("only the last two are open, and it helps", lastTwo, 4, 5, 8000);
    }

    private static void fairerOfSeveral() {
        Edge.of("Promise 19", "what: 0 the first task, 1 the second one (the first one is the lower one; of several the one with the "
            + "lower first task, then the lower second one), 2 the planned spread then");
        // 12 and 8 become 10 and 10 with any of 0 and 1, and any of 2 and 3.
        Run four = Run.weights(1, 1).efforts(6, 6, 4, 4).then(CleaningRota::plan, r -> r.propose(1, 2), r -> r.answer(0, 1));
        Edge.are("resident", four, task -> r -> r.task(task, 1), 0, 0, 1, 1);
        fairerIs("all four alike", four, 0, 2, 0);
        // 7000, 8000 and 2000: both 0 with 4 and 1 with 2 make it 4500.
        Run lowerFirst = Run.weights(2, 1, 1).efforts(9, 8, 6, 5, 2).then(CleaningRota::plan, r -> r.weigh(2, 4));
        Edge.are("resident", lowerFirst, task -> r -> r.task(task, 1), 0, 1, 2, 0, 2);
        Edge.is("with 1 and 2", lowerFirst.then(r -> r.propose(1, 2), r -> r.answer(0, 1)).ask(r -> r.count(10)), 4500);
        Edge.is("with 0 and 4", lowerFirst.then(r -> r.propose(0, 4), r -> r.answer(0, 1)).ask(r -> r.count(10)), 4500);
        fairerIs("the lower first one comes ahead of the lower second one", lowerFirst, 0, 4, 4500);
        // The lower task is that of the resident 1.
        Run lowerTask = Run.weights(1, 1).efforts(6, 4).then(CleaningRota::plan, r -> r.propose(0, 1), r -> r.answer(0, 1),
            r -> r.weigh(0, 2));
        fairerIs("the lower one first, whoever has it", lowerTask, 0, 1, 1000);
    }

    private static void fairerErrors() {
        Edge.of("Promise 19", "Returns the number; BAD_VALUE if what is out of range; NONE if there is no such swap.");
        Edge.range("what, with a swap", Run.weights(1, 2).efforts(9, 8, 6).then(CleaningRota::plan), what -> r -> r.fairer(what), 0, 2,
            CleaningRota.BAD_VALUE);
        Edge.range("what, without a swap", Run.weights(1), what -> r -> r.fairer(what), 0, 2, CleaningRota.BAD_VALUE);
        Edge.refusedWithoutChange("what, in a new house", NEW, r -> r.fairer(3), CleaningRota.BAD_VALUE);
        noneIsFairer("no swap", NEW);
    }
}
