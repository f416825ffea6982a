import java.util.Arrays;

/** Boundaries that "Weeks and tasks" and the promises 7 to 10 name. */
final class EdgesOfWeeks {
    private static final String TERMS = "Weeks and tasks";
    private static final int PENALTY = CleaningRota.PENALTY, DECAY = CleaningRota.DECAY;
    private static final int DEEP = CleaningRota.DEEP, DIRTY = CleaningRota.DIRTY;
    private static final Run BUSY = Run.busy(), FULL = Run.full();

    private EdgesOfWeeks() {
    }

    static void run() {
        firstWeek();
        plannedOnce();
        dueAreas();
        deepAreas();
        deepEfforts();
        otherAreas();
        order();
        tasksOfTheWeek();
        whoIsHere();
        loads();
        lessForTheWeight();
        ties();
        secondDeepTask();
        nobodyHere();
        openOrDone();
        cleaning();
        skipping();
        nothingIsLeft();
        pointsDecay();
        dirtGrows();
        nextWeek();
        extraWork();
        promise7();
        promise8();
        promise9();
        promise10();
    }

    private static void tasksAre(String what, Run run, int number, int... due) {
        Edge.is(what + ": tasks", run.ask(r -> r.count(3)), due.length);
        for (int task = 0; task < due.length; task++) {
            int asked = task;
            Edge.is(what + ": task(" + task + ", " + number + ")", run.ask(r -> r.task(asked, number)), due[task]);
        }
    }

    private static void areasAre(String what, Run run, int... due) {
        tasksAre(what, run, 0, due);
    }

    private static void residentsAre(String what, Run run, int... due) {
        tasksAre(what, run, 1, due);
    }

    private static void effortsAre(String what, Run run, int... due) {
        tasksAre(what, run, 2, due);
    }

    private static void firstWeek() {
        Edge.of(TERMS, "The weeks are numbered from 0; the present week is 0 at first.");
        Edge.is("at first", Run.of().ask(r -> r.count(0)), 0);
        Edge.is("still in the first week when it is planned", Run.of(CleaningRota::plan).ask(r -> r.count(0)), 0);
        Edge.is("the second week", Run.of().skipWeeks(1).ask(r -> r.count(0)), 1);
        Edge.is("the last week that 512 calls reach", Run.of().skipWeeks(255).ask(r -> r.count(0)), 255);
    }

    private static void plannedOnce() {
        Edge.of(TERMS, "Each week can be planned once; then it ends.");
        Run run = Run.weights(1).efforts(5);
        Edge.refused("it does not end unplanned", run, CleaningRota::end, CleaningRota.NOT_POSSIBLE);
        Edge.refused("planned twice", run.then(CleaningRota::plan), CleaningRota::plan, CleaningRota.NOT_POSSIBLE);
        Edge.refused("planned when all is done", run.then(CleaningRota::plan).doTasks(0), CleaningRota::plan,
            CleaningRota.NOT_POSSIBLE);
        Edge.is("the next week is planned once more", run.skipWeeks(1).ask(CleaningRota::plan), 1);
        Edge.is("the same week, when its plan was undone", run.then(CleaningRota::plan, CleaningRota::undo).ask(CleaningRota::plan), 1);
    }

    /** Six areas with this period, with efforts that fall from area to area. */
    private static Run withPeriod(int period, int weeks) {
        Run run = Run.weights(1);
        for (int area = 0; area < 6; area++) {
            int effort = 20 - area;
            run = run.then(r -> r.area(effort, period, 0));
        }
        return run.skipWeeks(weeks);
    }

    private static void dueAreas() {
        Edge.of(TERMS, "Planning a week: an area a is due, if (the week) mod (its period) is a mod (its period).");
        int[][][] due = {
            {{0, 1, 2, 3, 4, 5}, {0, 1, 2, 3, 4, 5}},
            {{0, 2, 4}, {1, 3, 5}, {0, 2, 4}},
            {{0, 3}, {1, 4}, {2, 5}, {0, 3}},
            {{0, 4}, {1, 5}, {2}, {3}, {0, 4}},
        };
        for (int period = 1; period <= 4; period++) {
            for (int week = 0; week < due[period - 1].length; week++) {
                String what = "period " + period + " in week " + week;
                areasAre(what, withPeriod(period, week).then(CleaningRota::plan), due[period - 1][week]);
                for (int area = 0; area < 6; area++) {
                    int asked = area;
                    boolean isDue = Arrays.binarySearch(due[period - 1][week], area) >= 0;
                    Edge.is(what + ": area " + area, withPeriod(period, week).ask(r -> r.room(asked, 5)), isDue ? 1 : 0);
                }
            }
        }
    }

    private static void deepAreas() {
        Edge.of(TERMS, "For each area that needs a deep clean (its dirt is at least DIRTY), due or not, there are two deep tasks,");
        Run run = Run.weights(1).then(r -> r.area(5, 4, 125), r -> r.area(5, 4, 124), r -> r.area(5, 1, 125)).skipWeeks(2);
        Edge.are("dirt", run, area -> r -> r.room(area, 3), 250, 248, 250);
        Edge.are("due", run, area -> r -> r.room(area, 5), 0, 0, 1);
        areasAre("not due, not dirty enough, due", run.then(CleaningRota::plan), 0, 0, 2, 2);
        tasksAre("deep", run.then(CleaningRota::plan), 4, 1, 1, 1, 1);
        areasAre("DIRTY one less", run.then(r -> r.set(DIRTY, 248), CleaningRota::plan), 0, 0, 1, 1, 2, 2);
        areasAre("DIRTY one more", run.then(r -> r.set(DIRTY, 251), CleaningRota::plan), 2);
        areasAre("DIRTY is changed too late", run.then(CleaningRota::plan, r -> r.set(DIRTY, 248)), 0, 0, 2, 2);
    }

    private static void deepEfforts() {
        Edge.of(TERMS, "each with the effort (DEEP * its effort + 1) / 2;");
        int[][] efforts = {{2, 1, 1}, {2, 2, 2}, {2, 20, 20}, {3, 1, 2}, {3, 2, 3}, {3, 19, 29}, {3, 20, 30}, {4, 1, 2},
            {5, 1, 3}, {5, 2, 5}, {5, 19, 48}, {6, 1, 3}, {6, 20, 60}};
        for (int[] one : efforts) {
            Run run = Run.weights(1).then(r -> r.area(one[1], 1, 1), r -> r.set(DIRTY, 1), r -> r.set(DEEP, one[0]))
                .skipWeeks(1).then(CleaningRota::plan);
            effortsAre("DEEP " + one[0] + ", effort " + one[1], run, one[2], one[2]);
        }
    }

    private static void otherAreas() {
        Edge.of(TERMS, "for each other area that is due, there is a task with its effort.");
        Run run = Run.weights(1).then(r -> r.area(1, 1, 0), r -> r.area(20, 2, 0), r -> r.area(9, 1, 200));
        effortsAre("week 0", run.then(CleaningRota::plan), 9, 1);
        effortsAre("week 1", run.skipWeeks(1).then(CleaningRota::plan), 20, 9, 1);
        effortsAre("a deep clean comes in place of the task", run.skipWeeks(2).then(CleaningRota::plan), 14, 14, 1);
    }

    private static void order() {
        Edge.of(TERMS, "Tasks are put in order by descending effort, those with the same effort by ascending areas, the first deep "
            + "task of an area ahead of the second one, and get the numbers 0, 1 and so on in this order.");
        areasAre("all efforts alike", Run.weights(1).efforts(7, 7, 7, 7, 7, 7).then(CleaningRota::plan), 0, 1, 2, 3, 4, 5);
        areasAre("ascending", Run.weights(1).efforts(1, 2, 3, 18, 19, 20).then(CleaningRota::plan), 5, 4, 3, 2, 1, 0);
        areasAre("descending", Run.weights(1).efforts(20, 19, 18, 3, 2, 1).then(CleaningRota::plan), 0, 1, 2, 3, 4, 5);
        // With DEEP 2, half a deep clean takes as much as the plain task.
        Run run = Run.weights(1, 1).then(r -> r.set(DEEP, 2), r -> r.set(DIRTY, 200), r -> r.area(7, 1, 0), r -> r.area(7, 1, 200),
            r -> r.area(8, 1, 0), r -> r.area(7, 1, 200), r -> r.area(7, 1, 0), r -> r.area(6, 1, 200)).skipWeeks(1)
            .then(CleaningRota::plan);
        areasAre("deep tasks among others", run, 2, 0, 1, 1, 3, 3, 4, 5, 5);
        effortsAre("deep tasks among others", run, 8, 7, 7, 7, 7, 7, 7, 6, 6);
        tasksAre("deep tasks among others", run, 4, 0, 0, 1, 1, 1, 1, 0, 1, 1);
        areasAre("no more than twelve", FULL, 0, 0, 1, 1, 2, 2, 3, 3, 4, 4, 5, 5);
        // Resident 1 has nothing and the weight 10, but the second one is not for who has the first one.
        Run first = Run.weights(1, 10).then(r -> r.area(8, 1, 200), r -> r.set(DIRTY, 200)).doWeeks(1).then(CleaningRota::plan);
        residentsAre("the first one is given ahead of the second one", first, 1, 0);
    }

    private static void tasksOfTheWeek() {
        Edge.of(TERMS, "(There are only the tasks of the present week.)");
        Run run = Run.weights(1).efforts(5, 4);
        Edge.is("none ahead of planning", run.ask(r -> r.task(0, 0)), CleaningRota.NO_SUCH);
        Edge.is("the last one", run.then(CleaningRota::plan).ask(r -> r.task(1, 0)), 1);
        Edge.is("none behind the last one", run.then(CleaningRota::plan).ask(r -> r.task(2, 0)), CleaningRota.NO_SUCH);
        Edge.is("none when the week has ended", run.skipWeeks(1).ask(r -> r.task(0, 0)), CleaningRota.NO_SUCH);
        Edge.is("those of the next week have the numbers from 0 on",
            run.skipWeeks(1).then(CleaningRota::plan).ask(r -> r.count(3)), 2);
    }

    private static void whoIsHere() {
        Edge.of(TERMS, "Then each task, in this order, is given to a resident who is not away in this week: the one with the least "
            + "load for the weight;");
        Run run = Run.weights(1, 1, 1).efforts(9, 8, 7, 6);
        residentsAre("all are here", run.then(CleaningRota::plan), 0, 1, 2, 2);
        residentsAre("one is away", run.then(r -> r.away(0, 0, 0), CleaningRota::plan), 1, 2, 2, 1);
        residentsAre("one is away from the next week on", run.then(r -> r.away(0, 1, 9), CleaningRota::plan), 0, 1, 2, 2);
        residentsAre("two are away", run.then(r -> r.away(0, 0, 0), r -> r.away(2, 0, 5), CleaningRota::plan), 1, 1, 1, 1);
    }

    private static void loads() {
        Edge.of(TERMS, "the load is the work done plus the efforts of all open tasks of the resident (also of those that were just "
            + "given).");
        Run run = Run.weights(1, 1).efforts(9, 8, 2).then(CleaningRota::plan);
        residentsAre("just given ones count", run, 0, 1, 1);
        Edge.are("load", run, resident -> r -> r.about(resident, 4), 9, 10);
        Edge.are("load when one is done", run.doTasks(1), resident -> r -> r.about(resident, 4), 9, 10);
        Edge.are("load when others are skipped", run.doTasks(1).then(CleaningRota::end), resident -> r -> r.about(resident, 4), 0, 8);
        residentsAre("the work done counts", run.doTasks(1).then(CleaningRota::end, CleaningRota::plan), 0, 1, 0);
    }

    private static void lessForTheWeight() {
        Edge.of(TERMS, "(One resident has less than another one if load * (weight of the other one) is less than (load of the other "
            + "one) * weight.)");
        residentsAre("6 * 2 is as much as 4 * 3", Run.weights(3, 2).efforts(6, 4, 1).then(CleaningRota::plan), 0, 1, 0);
        residentsAre("6 * 2 is less than 5 * 3", Run.weights(3, 2).efforts(6, 5, 1).then(CleaningRota::plan), 0, 1, 0);
        residentsAre("6 * 2 is more than 3 * 3", Run.weights(3, 2).efforts(6, 3, 1).then(CleaningRota::plan), 0, 1, 1);
        // 10 over 10 and 11 over 10 differ, although both are 1 when rounded down.
        residentsAre("not rounded", Run.weights(10, 10).efforts(11, 10, 1).then(CleaningRota::plan), 0, 1, 1);
    }

    private static void ties() {
        Edge.of(TERMS, "Of several, it is the one with the greatest debt, then the lowest one.");
        Run noDebts = Run.weights(1, 1, 1).efforts(5);
        residentsAre("no debts: the lowest one", noDebts.then(CleaningRota::plan), 0);
        Run oneDebt = noDebts.then(r -> r.away(0, 0, 0)).skipWeeks(1);
        Edge.are("debt", oneDebt, resident -> r -> r.about(resident, 2), 0, 5, 0);
        residentsAre("the one with a debt", oneDebt.then(CleaningRota::plan), 1);
        Run twoDebts = Run.weights(1, 1, 1).efforts(6, 5).then(r -> r.away(0, 0, 0)).skipWeeks(1);
        Edge.are("debt", twoDebts, resident -> r -> r.about(resident, 2), 0, 6, 5);
        residentsAre("the greatest debt, then the next one", twoDebts.then(CleaningRota::plan), 1, 2);
        Run turned = Run.weights(1, 1, 1).efforts(6, 5).then(CleaningRota::plan, r -> r.propose(0, 1), r -> r.answer(0, 1),
            CleaningRota::end);
        Edge.are("debt", turned, resident -> r -> r.about(resident, 2), 5, 6, 0);
        residentsAre("the greatest debt, though not the lowest one", turned.then(CleaningRota::plan), 1, 0);
        Run equalDebts = Run.weights(1, 1, 1).efforts(5, 5).then(r -> r.away(0, 0, 0)).skipWeeks(1);
        residentsAre("equal debts: the lowest one", equalDebts.then(CleaningRota::plan), 1, 2);
        Run withWork = oneDebt.efforts(2).then(r -> r.extra(1, 1));
        Edge.are("debt", withWork, resident -> r -> r.about(resident, 2), 0, 3, 0);
        residentsAre("the load comes ahead of the debt", withWork.then(CleaningRota::plan), 0, 2);
        // 6 over 3 and 4 over 2, and a debt for the second one alone.
        Run weighted = Run.weights(2, 3).efforts(6, 4, 1).then(r -> r.away(0, 0, 0)).skipWeeks(1).then(CleaningRota::plan);
        residentsAre("equal for the weight: the greatest debt", weighted, 1, 0, 1);
    }

    /** One area that is too dirty in week 1, when nobody has worked yet. */
    private static Run dirtyArea(int... weights) {
        return Run.weights(weights).then(r -> r.area(10, 1, 200), r -> r.set(DIRTY, 200), CleaningRota::plan, CleaningRota::end);
    }

    private static void secondDeepTask() {
        Edge.of(TERMS, "The second deep task of an area is not given to the resident who has the first one, if anybody else is not "
            + "away.");
        residentsAre("alone", dirtyArea(1).then(CleaningRota::plan), 0, 0);
        residentsAre("of two, with the greatest weight", dirtyArea(10, 1).then(CleaningRota::plan), 0, 1);
        residentsAre("all others are away", dirtyArea(10, 1, 1).then(r -> r.away(1, 1, 1), r -> r.away(2, 0, 1), CleaningRota::plan),
            0, 0);
        residentsAre("all others but the last one are away", dirtyArea(10, 1, 1).then(r -> r.away(1, 1, 1), CleaningRota::plan),
            0, 2);
        residentsAre("others were away and will be", dirtyArea(10, 1, 1).then(r -> r.away(1, 2, 9), r -> r.away(2, 0, 0),
            CleaningRota::plan), 0, 1);
        Run two = Run.weights(10, 1).then(r -> r.area(10, 1, 200), r -> r.area(10, 1, 200), r -> r.set(DIRTY, 200)).skipWeeks(1);
        residentsAre("two areas", two.then(CleaningRota::plan), 0, 1, 0, 1);
    }

    private static void nobodyHere() {
        Edge.of(TERMS, "If all residents are away (or there is none), no tasks are made (the week is planned all the same).");
        Run none = Run.of().efforts(5);
        Edge.is("no resident", none.ask(CleaningRota::plan), 0);
        Edge.is("no resident: planned", none.then(CleaningRota::plan).ask(r -> r.count(8)), 1);
        Edge.refused("no resident: planned once", none.then(CleaningRota::plan), CleaningRota::plan, CleaningRota.NOT_POSSIBLE);
        Edge.is("no resident: it ends", none.then(CleaningRota::plan).ask(CleaningRota::end), 0);
        Run away = Run.weights(1, 1).efforts(5).then(r -> r.away(0, 0, 0), r -> r.away(1, 0, 9));
        Edge.is("all are away", away.ask(CleaningRota::plan), 0);
        Edge.is("all are away: planned", away.then(CleaningRota::plan).ask(r -> r.count(8)), 1);
        Edge.is("all are away: no tasks", away.then(CleaningRota::plan).ask(r -> r.count(3)), 0);
        Edge.is("all but one are away", away.then(r -> r.resident(1)).ask(CleaningRota::plan), 1);
        Edge.is("the next week, when one is back", away.skipWeeks(1).ask(CleaningRota::plan), 1);
        Run late = away.then(CleaningRota::plan, r -> r.resident(1));
        Edge.is("one who comes when it is planned gets none", late.ask(r -> r.count(3)), 0);
        Edge.refused("one who comes when it is planned", late, CleaningRota::plan, CleaningRota.NOT_POSSIBLE);
        Run forecast = Run.of(r -> r.area(5, 1, 7));
        Edge.is("a forecast without residents", forecast.ask(r -> r.forecast(60, 1)), 0);
        Edge.is("a forecast without residents: dirt", forecast.ask(r -> r.forecast(60, 3)), 420);
    }

    private static void openOrDone() {
        Edge.of(TERMS, "A task is open (0) or done (1).");
        Run run = Run.weights(1).efforts(5, 4).then(CleaningRota::plan);
        tasksAre("planned", run, 3, 0, 0);
        tasksAre("one done", run.doTasks(1), 3, 0, 1);
        tasksAre("both done", run.doTasks(1, 0), 3, 1, 1);
    }

    private static void cleaning() {
        Edge.of(TERMS, "When a task is done, the work of its resident increases by its effort; the dirt of its area becomes 0, if it "
            + "is no deep task, or the other deep task of the area is done already.");
        Run plain = Run.weights(1, 1).then(r -> r.area(6, 1, 200)).skipWeeks(1).then(CleaningRota::plan);
        Edge.are("a plain task: dirt", plain, area -> r -> r.room(area, 3), 200);
        Edge.are("a plain task done: dirt", plain.doTasks(0), area -> r -> r.room(area, 3), 0);
        Edge.are("a plain task done: work", plain.doTasks(0), resident -> r -> r.about(resident, 1), 6, 0);
        for (int first = 0; first < 2; first++) {
            Run half = dirtyArea(1, 1).then(CleaningRota::plan).doTasks(first);
            Edge.is("the first of two done: dirt", half.ask(r -> r.room(0, 3)), 200);
            Edge.is("the first of two done: not cleaned", half.ask(r -> r.room(0, 6)), 0);
            int other = 1 - first;
            Edge.is("the first of two done: work", half.ask(r -> r.about(other, 1)), 0);
            Run whole = half.doTasks(other);
            Edge.is("both done: dirt", whole.ask(r -> r.room(0, 3)), 0);
            Edge.is("both done: cleaned", whole.ask(r -> r.room(0, 6)), 1);
            Edge.are("both done: work", whole, resident -> r -> r.about(resident, 1), 15, 15);
        }
        Run weekAgo = dirtyArea(1, 1).then(CleaningRota::plan).doTasks(0).then(CleaningRota::end, CleaningRota::plan).doTasks(1);
        Edge.is("a deep task of last week is not the other one", weekAgo.ask(r -> r.room(0, 3)), 400);
    }

    private static void skipping() {
        Edge.of(TERMS, "When the week ends: each open task, in ascending order, is skipped: the debt of its resident increases by its "
            + "effort, and the points by PENALTY.");
        Run run = Run.weights(1, 1).efforts(6, 5, 4).then(r -> r.set(DECAY, 0), CleaningRota::plan);
        residentsAre("planned", run, 0, 1, 1);
        Run all = run.then(CleaningRota::end);
        Edge.is("none is done", all.answer(), 3);
        Edge.are("none is done: debt", all, resident -> r -> r.about(resident, 2), 6, 9);
        Edge.are("none is done: points", all, resident -> r -> r.about(resident, 3), 20, 40);
        Run last = run.doTasks(0, 1).then(CleaningRota::end);
        Edge.is("one is open", last.answer(), 1);
        Edge.are("one is open: debt", last, resident -> r -> r.about(resident, 2), 0, 4);
        Edge.are("one is open: points", last, resident -> r -> r.about(resident, 3), 0, 20);
        Run none = run.doTasks(0, 1, 2).then(CleaningRota::end);
        Edge.is("all are done", none.answer(), 0);
        Edge.are("all are done: debt", none, resident -> r -> r.about(resident, 2), 0, 0);
        Edge.are("all are done: points", none, resident -> r -> r.about(resident, 3), 0, 0);
        Edge.is("twelve are open", FULL.ask(CleaningRota::end), 12);
    }

    private static void nothingIsLeft() {
        Edge.of(TERMS, "There are no tasks and no swaps then.");
        Run run = FULL.then(CleaningRota::end);
        Edge.is("tasks", run.ask(r -> r.count(3)), 0);
        Edge.is("open tasks", run.ask(r -> r.count(4)), 0);
        Edge.is("swaps", run.ask(r -> r.count(7)), 0);
        Edge.refused("the first task", run, r -> r.done(0), CleaningRota.NO_SUCH);
        Edge.refused("the first swap", run, r -> r.answer(0, 1), CleaningRota.NO_SUCH);
        Edge.is("swaps of the next plan", run.then(CleaningRota::plan).ask(r -> r.count(7)), 0);
    }

    private static void pointsDecay() {
        Edge.of(TERMS, "For each resident, the points become points * (100 - DECAY) / 100; those of tasks that were skipped in this "
            + "week, too.");
        Run run = Run.weights(1).efforts(5).skipWeeks(1);
        Edge.is("20 * 75 / 100", run.ask(r -> r.about(0, 3)), 15);
        int[] points = {15, 11, 8, 6, 4, 3, 2, 1, 0, 0};
        for (int weeks = 0; weeks < points.length; weeks++) {
            Edge.is("then, after " + weeks + " weeks", run.doWeeks(weeks).ask(r -> r.about(0, 3)), points[weeks]);
        }
        Edge.is("(15 + 20) * 75 / 100", run.skipWeeks(1).ask(r -> r.about(0, 3)), 26);
        Run away = Run.weights(1, 1).efforts(5).skipWeeks(1).then(r -> r.away(0, 0, 999)).skipWeeks(1);
        Edge.are("also of one who is away", away, resident -> r -> r.about(resident, 3), 11, 15);
        Edge.is("also in a week without tasks",
            run.then(r -> r.away(0, 1, 1)).skipWeeks(1).ask(r -> r.about(0, 3)), 11);
    }

    private static void dirtGrows() {
        Edge.of(TERMS, "For each area, the dirt increases by its growth.");
        Run run = Run.weights(1).then(r -> r.area(5, 1, 0), r -> r.area(4, 1, 1), r -> r.area(3, 1, 200)).then(CleaningRota::plan);
        Edge.are("before: dirt", run, area -> r -> r.room(area, 3), 0, 0, 0);
        Edge.are("not cleaned: dirt", run.then(CleaningRota::end), area -> r -> r.room(area, 3), 0, 1, 200);
        Edge.are("cleaned: dirt", run.doTasks(0, 1, 2).then(CleaningRota::end), area -> r -> r.room(area, 3), 0, 1, 200);
        Edge.are("without tasks: dirt", Run.of(r -> r.area(5, 4, 9)).skipWeeks(3), area -> r -> r.room(area, 3), 27);
    }

    private static void nextWeek() {
        Edge.of(TERMS, "Then the next week begins; it is not planned yet.");
        Run run = BUSY.then(CleaningRota::end);
        Edge.is("week", run.ask(r -> r.count(0)), 2);
        Edge.is("planned", run.ask(r -> r.count(8)), 0);
        Edge.refused("it does not end yet", run, CleaningRota::end, CleaningRota.NOT_POSSIBLE);
    }

    /** Resident 0 has a debt of 7; the area 1 has this effort and some dirt. */
    private static Run withDebtOfSeven(int effort) {
        return Run.weights(1).efforts(7).skipWeeks(1).then(r -> r.area(effort, 1, 30), CleaningRota::plan).doTasks(0, 1)
            .then(CleaningRota::end);
    }

    private static void extraWork() {
        Edge.of(TERMS, "A resident with a debt can clean any area without a task (tasks for the area stay as they are): the dirt of "
            + "the area becomes 0, the debt decreases by the effort of the area, but not below 0, and the work increases by so much as "
            + "the debt decreased.");
        int[][] cases = {{1, 6, 1}, {6, 1, 6}, {7, 0, 7}, {8, 0, 7}, {20, 0, 7}};
        for (int[] one : cases) {
            Run before = withDebtOfSeven(one[0]);
            Run paid = before.then(r -> r.extra(0, 1));
            String what = "7 less " + one[0];
            Edge.is(what, paid.answer(), one[1]);
            Edge.is(what + ": debt", paid.ask(r -> r.about(0, 2)), one[1]);
            Edge.is(what + ": work", paid.ask(r -> r.about(0, 1)), 7 + one[0] + one[2]);
            Edge.is(what + ": dirt before", before.ask(r -> r.room(1, 3)), 30);
            Edge.is(what + ": dirt", paid.ask(r -> r.room(1, 3)), 0);
        }
        Run deep = dirtyArea(1, 1).then(CleaningRota::plan, r -> r.extra(0, 0));
        tasksAre("deep tasks stay deep", deep, 4, 1, 1);
        tasksAre("deep tasks stay open", deep, 3, 0, 0);
        effortsAre("deep tasks keep their efforts", deep, 15, 15);
        Edge.is("the area is clean", deep.ask(r -> r.room(0, 4)), 0);
        Edge.is("half of a deep clean does not clean it again", deep.doTasks(0).ask(r -> r.room(0, 6)), 1);
        Edge.is("both halves do", deep.doTasks(0, 1).ask(r -> r.room(0, 6)), 2);
        Edge.is("one half is done already", dirtyArea(1, 1).then(CleaningRota::plan).doTasks(1).then(r -> r.extra(0, 0))
            .ask(r -> r.room(0, 3)), 0);
    }

    private static void promise7() {
        Edge.of("Promise 7", "int plan(): Plans the present week.");
        Run run = Run.weights(1).efforts(5);
        Edge.is("not planned at first", run.ask(r -> r.count(8)), 0);
        Edge.is("planned then", run.then(CleaningRota::plan).ask(r -> r.count(8)), 1);
        Edge.is("the week stays", run.then(CleaningRota::plan).ask(r -> r.count(0)), 0);
        Edge.of("Promise 7", "Returns the number of tasks that were made;");
        Edge.is("no residents, no areas", Run.of().ask(CleaningRota::plan), 0);
        Edge.is("no areas", Run.weights(1).ask(CleaningRota::plan), 0);
        Edge.is("no residents", Run.of().efforts(5).ask(CleaningRota::plan), 0);
        Edge.is("no area is due", Run.weights(1).then(r -> r.area(5, 2, 0)).skipWeeks(1).ask(CleaningRota::plan), 0);
        Edge.is("all are away", run.then(r -> r.away(0, 0, 0)).ask(CleaningRota::plan), 0);
        Edge.is("one", run.ask(CleaningRota::plan), 1);
        Edge.is("six", run.efforts(1, 1, 1, 1, 1).ask(CleaningRota::plan), 6);
        Edge.is("twelve", Run.weights(1).times(6, r -> r.area(1, 4, 200)).then(r -> r.set(DIRTY, 200)).skipWeeks(1)
            .ask(CleaningRota::plan), 12);
        Edge.is("twelve once more", FULL.then(CleaningRota::end).ask(CleaningRota::plan), 12);
        Edge.of("Promise 7", "NOT_POSSIBLE if it is planned.");
        Edge.refused("with tasks", run.then(CleaningRota::plan), CleaningRota::plan, CleaningRota.NOT_POSSIBLE);
        Edge.refused("without tasks", Run.of(CleaningRota::plan), CleaningRota::plan, CleaningRota.NOT_POSSIBLE);
        Edge.refused("with twelve tasks", FULL, CleaningRota::plan, CleaningRota.NOT_POSSIBLE);
        Edge.refused("with an area more", BUSY.efforts(3), CleaningRota::plan, CleaningRota.NOT_POSSIBLE);
    }

    private static void promise8() {
        Edge.of("Promise 8", "int done(int task): Tells that a task is done.");
        Run run = Run.weights(1).efforts(5, 4).then(CleaningRota::plan);
        tasksAre("the first one", run.doTasks(0), 3, 1, 0);
        tasksAre("the last one", run.doTasks(1), 3, 0, 1);
        Edge.is("all that were done", run.doTasks(1, 0).ask(r -> r.count(5)), 2);
        Edge.of("Promise 8", "Returns the effort;");
        Edge.is("the least", Run.weights(1).efforts(1).then(CleaningRota::plan).ask(r -> r.done(0)), 1);
        Edge.is("the greatest of a plain task", Run.weights(1).efforts(20).then(CleaningRota::plan).ask(r -> r.done(0)), 20);
        Edge.is("the greatest", Run.weights(1).then(r -> r.area(20, 1, 1), r -> r.set(DIRTY, 1), r -> r.set(DEEP, 6)).skipWeeks(1)
            .then(CleaningRota::plan).ask(r -> r.done(1)), 60);
        Edge.of("Promise 8", "NO_SUCH if there is no such task;");
        Edge.allowed("of five", BUSY, task -> r -> r.done(task), 0, 4);
        Edge.refusedOutside("of five", BUSY, task -> r -> r.done(task), 0, 4, CleaningRota.NO_SUCH);
        Edge.range("of twelve", FULL, task -> r -> r.done(task), 0, 11, CleaningRota.NO_SUCH);
        Edge.refused("of none: not planned", Run.weights(1).efforts(5), r -> r.done(0), CleaningRota.NO_SUCH);
        Edge.refused("of none: nobody is here", Run.of().efforts(5).then(CleaningRota::plan), r -> r.done(0), CleaningRota.NO_SUCH);
        Edge.refused("of the week before", run.then(CleaningRota::end), r -> r.done(0), CleaningRota.NO_SUCH);
        Edge.refusedWithoutChange("of a plan that was undone", run.then(CleaningRota::undo), r -> r.done(0), CleaningRota.NO_SUCH);
        Edge.of("Promise 8", "NOT_POSSIBLE if it is done.");
        Edge.refused("one of two", run.doTasks(1), r -> r.done(1), CleaningRota.NOT_POSSIBLE);
        Edge.refused("the last one of two", run.doTasks(1, 0), r -> r.done(1), CleaningRota.NOT_POSSIBLE);
        Edge.refused("half of a deep clean", FULL.doTasks(11), r -> r.done(11), CleaningRota.NOT_POSSIBLE);
        Edge.is("it was undone", run.doTasks(1).then(CleaningRota::undo).ask(r -> r.done(1)), 4);
    }

    private static void promise9() {
        Edge.of("Promise 9", "int extra(int resident, int area): Lets a resident clean an area without a task.");
        Run run = Run.weights(1, 1).efforts(5, 4).skipWeeks(1);
        Edge.is("an area without a task in a week without tasks", run.then(r -> r.extra(0, 1)).ask(r -> r.room(1, 6)), 1);
        Edge.is("no task is done", run.then(r -> r.extra(0, 1)).ask(r -> r.count(5)), 0);
        Edge.of("Promise 9", "Returns the debt that is left;");
        Edge.is("5 less 4", run.ask(r -> r.extra(0, 1)), 1);
        Edge.is("5 less 5", run.ask(r -> r.extra(0, 0)), 0);
        Edge.is("4 less 5", run.ask(r -> r.extra(1, 0)), 0);
        Edge.is("1 less 5", run.then(r -> r.extra(0, 1)).ask(r -> r.extra(0, 0)), 0);
        Edge.of("Promise 9", "NO_SUCH if there is no such resident or area;");
        Edge.range("resident", run, resident -> r -> r.extra(resident, 0), 0, 1, CleaningRota.NO_SUCH);
        Edge.range("area", run, area -> r -> r.extra(0, area), 0, 1, CleaningRota.NO_SUCH);
        Edge.refusedOutside("area, without a debt", run.then(r -> r.resident(1)), area -> r -> r.extra(2, area), 0, 1,
            CleaningRota.NO_SUCH);
        Edge.refused("neither of them", run, r -> r.extra(2, 2), CleaningRota.NO_SUCH);
        Edge.refusedWithoutChange("in a new house", Run.of(), r -> r.extra(0, 0), CleaningRota.NO_SUCH);
        Run last = Run.weights(1, 1, 1, 1, 1, 1, 1, 1).efforts(6, 5, 4, 3, 2, 1).then(r -> r.away(0, 0, 0), r -> r.away(1, 0, 0))
            .skipWeeks(1);
        Edge.is("the last resident, the last area", last.ask(r -> r.extra(7, 5)), 0);
        Edge.refused("behind the last resident", last, r -> r.extra(8, 5), CleaningRota.NO_SUCH);
        Edge.refused("behind the last area", last, r -> r.extra(7, 6), CleaningRota.NO_SUCH);
        Edge.of("Promise 9", "NOT_POSSIBLE if the resident has no debt, or is away.");
        Edge.refused("no debt at first", Run.weights(1).efforts(5), r -> r.extra(0, 0), CleaningRota.NOT_POSSIBLE);
        Edge.refused("no debt when all is paid", run.then(r -> r.extra(0, 0)), r -> r.extra(0, 0), CleaningRota.NOT_POSSIBLE);
        Edge.refused("only an open task", run.then(r -> r.resident(1), r -> r.away(0, 1, 1), r -> r.away(1, 1, 1), CleaningRota::plan),
            r -> r.extra(2, 0), CleaningRota.NOT_POSSIBLE);
        Edge.is("a debt of 1", run.then(r -> r.extra(0, 1)).ask(r -> r.about(0, 2)), 1);
        Edge.is("a debt of 1 can be paid", run.then(r -> r.extra(0, 1)).ask(r -> r.extra(0, 1)), 0);
        Edge.refused("away up to now", run.then(r -> r.away(0, 0, 1)), r -> r.extra(0, 0), CleaningRota.NOT_POSSIBLE);
        Edge.refused("away from now on", run.then(r -> r.away(0, 1, 2)), r -> r.extra(0, 0), CleaningRota.NOT_POSSIBLE);
        Edge.is("away up to the week before", run.then(r -> r.away(0, 0, 0)).ask(r -> r.extra(0, 0)), 0);
        Edge.is("away from the next week on", run.then(r -> r.away(0, 2, 2)).ask(r -> r.extra(0, 0)), 0);
        Edge.is("the other one is away", run.then(r -> r.away(1, 1, 1)).ask(r -> r.extra(0, 0)), 0);
    }

    private static void promise10() {
        Edge.of("Promise 10", "int end(): Ends the present week.");
        Edge.is("the next week", Run.of().skipWeeks(1).ask(r -> r.count(0)), 1);
        Edge.of("Promise 10", "Returns the number of tasks that were skipped;");
        Edge.is("no tasks", Run.of(CleaningRota::plan).ask(CleaningRota::end), 0);
        Edge.is("all are done", Run.weights(1).efforts(5).then(CleaningRota::plan).doTasks(0).ask(CleaningRota::end), 0);
        Edge.is("one", Run.weights(1).efforts(5, 4).then(CleaningRota::plan).doTasks(0).ask(CleaningRota::end), 1);
        Edge.is("twelve", FULL.ask(CleaningRota::end), 12);
        Edge.is("twelve but one", FULL.doTasks(5).ask(CleaningRota::end), 11);
        Edge.is("all that were skipped", FULL.then(CleaningRota::end).ask(r -> r.count(6)), 18);
        Edge.of("Promise 10", "NOT_POSSIBLE if it is not planned, or it is the week 999.");
        Edge.refused("not planned at first", Run.weights(1), CleaningRota::end, CleaningRota.NOT_POSSIBLE);
        Edge.refusedWithoutChange("not planned in a new house", Run.of(), CleaningRota::end, CleaningRota.NOT_POSSIBLE);
        Edge.refused("not planned yet", FULL.then(CleaningRota::end), CleaningRota::end, CleaningRota.NOT_POSSIBLE);
        Edge.refused("not planned any more", Run.weights(1).then(CleaningRota::plan, CleaningRota::undo, r -> r.weigh(0, 2)),
            CleaningRota::end, CleaningRota.NOT_POSSIBLE);
        lastWeek();
    }

    /** No object gets there in the 512 calls that are promised; the words hold all the same. */
    private static void lastWeek() {
        CleaningRota rota = Run.weights(1).efforts(1).skipWeeks(998).play();
        Edge.is("the week", rota.count(0), 998);
        Edge.is("the week 998 is planned", rota.plan(), 1);
        Edge.is("the week 998 ends", rota.end(), 1);
        Edge.is("the week 999 does not end unplanned", rota.end(), CleaningRota.NOT_POSSIBLE);
        Edge.is("the week 999 is planned", rota.plan(), 1);
        Edge.is("the week 999 does not end", rota.end(), CleaningRota.NOT_POSSIBLE);
        Edge.is("its task is still open", rota.task(0, 3), 0);
        Edge.is("the debt stays", rota.about(0, 2), 999);
        Edge.is("the plan is what is undone", rota.undo(), 5);
        Edge.is("the week is not planned", rota.count(8), 0);
        Edge.is("then the end of the week 998", rota.undo(), 4);
        Edge.is("the week 998 is there again", rota.count(0), 998);
    }
}
