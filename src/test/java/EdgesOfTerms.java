/** Boundaries that "What it is" and the first half of "Terms" name: conventions, residents, areas, settings. */
final class EdgesOfTerms {
    private static final int PENALTY = CleaningRota.PENALTY, DECAY = CleaningRota.DECAY;
    private static final int DEEP = CleaningRota.DEEP, DIRTY = CleaningRota.DIRTY;
    private static final Run BUSY = Run.busy(), FULL = Run.full();

    private EdgesOfTerms() {
    }

    static void run() {
        wordsWithoutBoundary();
        mostCalls();
        errorCodes();
        firstErrors();
        errorsChangeNothing();
        noneIsNoError();
        roundedDown();
        numberedFromZero();
        eightResidents();
        weights();
        awayWeeks();
        newResidents();
        sixAreas();
        areas();
        dirt();
        firstSettings();
        penalty();
        decay();
        deep();
        dirty();
    }

    private static void wordsWithoutBoundary() {
        Document.quote("What it is", "The cleaning rota of a shared house: areas that get dirty, residents with weights who can be away, "
            + "tasks of each week that go to those who have done least for their weight, swaps that need consent, turns that are "
            + "skipped and become debts with penalties that decay, deep cleans of areas that are too dirty, extra work that pays "
            + "debts, how fair all of it is, swaps that would make it fairer, forecasts, lists of tasks read from texts, and undo.");
        // FaceTest looks at it.
        Document.quoteAll("The public face");
        Document.quote("Terms", "CONVENTIONS.");
        // No call takes a set or answers with one.
        Document.quote("Terms", "Sets are bit masks.");
        Document.quote("Texts", "Ahead of the calls resident, weigh, away, area, set the interface says: ---- residents, areas, settings. "
            + "Ahead of the calls plan, done, extra, end the interface says: ---- weeks and tasks. "
            + "Ahead of the calls propose, answer the interface says: ---- swaps. "
            + "Ahead of the calls about, room, task, swap, count the interface says: ---- what there is.");
        Document.quote("Texts", "Ahead of the calls put, wipe, fault, load the interface says: ---- texts. "
            + "Ahead of the calls undo the interface says: ---- undo.");
    }

    private static void mostCalls() {
        Edge.of("What it is", "An object is used for at most 512 calls after it has been made; what later calls answer is free.");
        Run greatestWork = Run.weights(1, 10).then(r -> r.away(1, 0, 999)).times(6, r -> r.area(20, 1, 200))
            .then(r -> r.set(DEEP, 6), r -> r.set(DIRTY, 1)).doWeeks(125);
        Edge.is("calls ahead of the last one", greatestWork.size(), Run.MOST_CALLS - 1);
        // Six tasks of 20 in the first week, then twelve of 60 in each of 124 weeks.
        Edge.is("the last call: work", greatestWork.ask(r -> r.about(0, 1)), 89400);
        Edge.is("the last call: rate", greatestWork.ask(r -> r.about(0, 5)), 89400000);
        Edge.is("the last call: spread", greatestWork.ask(r -> r.count(9)), 89400000);
        Edge.is("the last call: planned spread", greatestWork.ask(r -> r.count(10)), 89400000);
        Edge.is("the last call: all that were done", greatestWork.ask(r -> r.count(5)), 6 + 124 * 12);
        Edge.is("the last call: how often it was cleaned", greatestWork.ask(r -> r.room(5, 6)), 125);
        Edge.is("the last call: a forecast of the spread", greatestWork.ask(r -> r.forecast(60, 0)), 132600000);
        Edge.is("the last call: a forecast of the tasks", greatestWork.ask(r -> r.forecast(60, 1)), 720);
        Edge.is("the last call: plan", greatestWork.ask(CleaningRota::plan), 12);
        Edge.is("the last call: undo", greatestWork.ask(CleaningRota::undo), 5);
        Run greatestDebt = Run.weights(1).times(6, r -> r.area(20, 1, 200)).then(r -> r.set(DEEP, 6), r -> r.set(DIRTY, 1))
            .then(r -> r.set(PENALTY, 100), r -> r.set(DECAY, 0)).skipWeeks(250);
        Edge.is("calls ahead of the last one", greatestDebt.size(), Run.MOST_CALLS - 1);
        Edge.is("the last call: debt", greatestDebt.ask(r -> r.about(0, 2)), 120 + 249 * 720);
        Edge.is("the last call: points", greatestDebt.ask(r -> r.about(0, 3)), 600 + 249 * 1200);
        Edge.is("the last call: all that were skipped", greatestDebt.ask(r -> r.count(6)), 6 + 249 * 12);
        Edge.is("the last call: week", greatestDebt.ask(r -> r.count(0)), 250);
    }

    private static void errorCodes() {
        Edge.of("Terms", "A method that fails returns one of the error codes NO_SUCH (-1), BAD_VALUE (-2), BAD_TEXT (-3), "
            + "TOO_MANY (-4) and NOT_POSSIBLE (-5);");
        Edge.is("NO_SUCH", CleaningRota.NO_SUCH, -1);
        Edge.is("NO_SUCH, answered", Run.of().ask(r -> r.done(0)), -1);
        Edge.is("BAD_VALUE", CleaningRota.BAD_VALUE, -2);
        Edge.is("BAD_VALUE, answered", Run.of().ask(r -> r.resident(0)), -2);
        Edge.is("BAD_TEXT", CleaningRota.BAD_TEXT, -3);
        Edge.is("BAD_TEXT, answered", Run.of().ask(CleaningRota::load), -3);
        Edge.is("TOO_MANY", CleaningRota.TOO_MANY, -4);
        Edge.is("TOO_MANY, answered", FULL.ask(r -> r.resident(1)), -4);
        Edge.is("NOT_POSSIBLE", CleaningRota.NOT_POSSIBLE, -5);
        Edge.is("NOT_POSSIBLE, answered", Run.of().ask(CleaningRota::end), -5);
        Edge.of("Texts", "The constants: NO_SUCH = -1, BAD_VALUE = -2, BAD_TEXT = -3, TOO_MANY = -4, NOT_POSSIBLE = -5, "
            + "NONE = -6: Error codes, and NONE: there is none.");
        Edge.is("NONE", CleaningRota.NONE, -6);
        Edge.is("NONE, answered", Run.of().ask(r -> r.fairer(0)), -6);
        Edge.of("Texts", "PENALTY = 0, DECAY = 1, DEEP = 2, DIRTY = 3: Settings.");
        Edge.is("PENALTY", PENALTY, 0);
        Edge.is("DECAY", DECAY, 1);
        Edge.is("DEEP", DEEP, 2);
        Edge.is("DIRTY", DIRTY, 3);
    }

    private static void firstErrors() {
        Edge.of("Terms", "it names its errors in the order in which they are checked, and the first one that applies is returned.");
        Edge.refused("resident: BAD_VALUE, TOO_MANY", FULL, r -> r.resident(11), CleaningRota.BAD_VALUE);
        Edge.refused("weigh: NO_SUCH, BAD_VALUE", BUSY, r -> r.weigh(3, 11), CleaningRota.NO_SUCH);
        Edge.refused("away: NO_SUCH, BAD_VALUE", BUSY, r -> r.away(3, 5, 4), CleaningRota.NO_SUCH);
        Edge.refused("area: BAD_VALUE, TOO_MANY", FULL, r -> r.area(1, 1, 201), CleaningRota.BAD_VALUE);
        Edge.refused("extra: NO_SUCH, NOT_POSSIBLE (no debt)", BUSY, r -> r.extra(0, 4), CleaningRota.NO_SUCH);
        Edge.refused("extra: NO_SUCH, NOT_POSSIBLE (away)", BUSY, r -> r.extra(2, 4), CleaningRota.NO_SUCH);
        Edge.refused("propose: NO_SUCH, NOT_POSSIBLE (done)", BUSY, r -> r.propose(2, 5), CleaningRota.NO_SUCH);
        Edge.refused("propose: NO_SUCH, TOO_MANY", FULL, r -> r.propose(0, 12), CleaningRota.NO_SUCH);
        Edge.refused("propose: NOT_POSSIBLE, TOO_MANY", FULL, r -> r.propose(0, 3), CleaningRota.NOT_POSSIBLE);
        Edge.refused("answer: NO_SUCH, BAD_VALUE", BUSY, r -> r.answer(1, 2), CleaningRota.NO_SUCH);
        Edge.refused("about: NO_SUCH, BAD_VALUE", BUSY, r -> r.about(3, 9), CleaningRota.NO_SUCH);
        Edge.refused("room: NO_SUCH, BAD_VALUE", BUSY, r -> r.room(4, 7), CleaningRota.NO_SUCH);
        Edge.refused("task: NO_SUCH, BAD_VALUE", BUSY, r -> r.task(5, 5), CleaningRota.NO_SUCH);
        Edge.refused("swap: NO_SUCH, BAD_VALUE", BUSY, r -> r.swap(1, 4), CleaningRota.NO_SUCH);
        Edge.refused("put: BAD_VALUE, TOO_MANY", FULL, r -> r.put(32), CleaningRota.BAD_VALUE);
    }

    private static void errorsChangeNothing() {
        Edge.of("Terms", "A call that returns an error changes nothing.");
        Edge.refused("resident", FULL, r -> r.resident(1), CleaningRota.TOO_MANY);
        Edge.refused("weigh", FULL, r -> r.weigh(0, 0), CleaningRota.BAD_VALUE);
        Edge.refused("away: only the first week is right", BUSY, r -> r.away(0, 1, 1000), CleaningRota.BAD_VALUE);
        Edge.refused("away: only the last week is right", BUSY, r -> r.away(0, -1, 1), CleaningRota.BAD_VALUE);
        Edge.refused("area", FULL, r -> r.area(1, 1, 1), CleaningRota.TOO_MANY);
        Edge.refused("set", BUSY, r -> r.set(DEEP, 7), CleaningRota.BAD_VALUE);
        Edge.refused("plan", BUSY, CleaningRota::plan, CleaningRota.NOT_POSSIBLE);
        Edge.refused("done", BUSY, r -> r.done(2), CleaningRota.NOT_POSSIBLE);
        Edge.refused("extra", BUSY, r -> r.extra(2, 0), CleaningRota.NOT_POSSIBLE);
        Edge.refused("end", BUSY.then(CleaningRota::end), CleaningRota::end, CleaningRota.NOT_POSSIBLE);
        Edge.refused("propose", FULL, r -> r.propose(4, 5), CleaningRota.TOO_MANY);
        Edge.refused("answer", FULL, r -> r.answer(5, 2), CleaningRota.BAD_VALUE);
        Edge.refused("count", BUSY, r -> r.count(17), CleaningRota.BAD_VALUE);
        Edge.refused("forecast", BUSY, r -> r.forecast(61, 0), CleaningRota.BAD_VALUE);
        Edge.refused("fairer", BUSY, r -> r.fairer(3), CleaningRota.BAD_VALUE);
        Edge.refused("put", FULL, r -> r.put('1'), CleaningRota.TOO_MANY);
        Edge.refused("load", Run.weights(1).efforts(5).then(Run.put("0,0,0-"), CleaningRota::plan), CleaningRota::load,
            CleaningRota.BAD_TEXT);
        Edge.refusedWithoutChange("undo", Run.of(Run.put("0")), CleaningRota::undo, CleaningRota.NOT_POSSIBLE);
    }

    private static void noneIsNoError() {
        Edge.of("Terms", "NONE (-6) is not an error; it is returned only if no error applies.");
        Run run = Run.weights(1);
        Edge.is("no open task", run.ask(r -> r.about(0, 7)), CleaningRota.NONE);
        Edge.is("no open task of nobody", run.ask(r -> r.about(1, 7)), CleaningRota.NO_SUCH);
        Edge.is("no swap", run.ask(r -> r.fairer(2)), CleaningRota.NONE);
        Edge.is("no swap, nothing asked", run.ask(r -> r.fairer(3)), CleaningRota.BAD_VALUE);
        Edge.is("no fault", run.pad("0").ask(CleaningRota::fault), CleaningRota.NONE);
        Edge.is("a fault", run.pad("-").ask(CleaningRota::fault), 0);
    }

    private static void roundedDown() {
        Edge.of("Terms", "Divisions are rounded down.");
        Run rates = Run.weights(3, 7).efforts(11, 6).then(CleaningRota::plan).doTasks(0, 1);
        Edge.is("1000 * 11 / 3", rates.ask(r -> r.about(0, 5)), 3666);
        Edge.is("1000 * 6 / 7", rates.ask(r -> r.about(1, 5)), 857);
        Run points = Run.weights(1).efforts(1).then(r -> r.set(PENALTY, 1), r -> r.set(DECAY, 1)).skipWeeks(1);
        Edge.is("1 * 99 / 100", points.ask(r -> r.about(0, 3)), 0);
        Run deep = Run.weights(1).then(r -> r.area(1, 1, 1), r -> r.set(DIRTY, 1), r -> r.set(DEEP, 2)).skipWeeks(1);
        Edge.is("(2 * 1 + 1) / 2", deep.then(CleaningRota::plan).ask(r -> r.task(0, 2)), 1);
    }

    private static void numberedFromZero() {
        Edge.of("Terms", "Everything is numbered from 0.");
        Edge.is("the first resident", Run.of().ask(r -> r.resident(1)), 0);
        Edge.is("the first area", Run.of().ask(r -> r.area(1, 1, 1)), 0);
        Edge.is("the first week", Run.of().ask(r -> r.count(0)), 0);
        Edge.is("the first character", Run.of().pad("x").ask(CleaningRota::fault), 0);
        Edge.is("the first setting", Run.of().ask(r -> r.set(0, 1)), 20);
        Edge.is("the first task", BUSY.ask(r -> r.task(0, 2)), 14);
        Edge.is("the last one of five tasks", BUSY.ask(r -> r.task(4, 2)), 2);
        Edge.is("the first swap", BUSY.ask(r -> r.swap(0, 0)), 3);
        Edge.refused("the task behind the last one", BUSY, r -> r.done(5), CleaningRota.NO_SUCH);
        Edge.refused("the task ahead of the first one", BUSY, r -> r.done(-1), CleaningRota.NO_SUCH);
    }

    private static void eightResidents() {
        Edge.of("Residents and areas", "There are up to 8 residents.");
        Run seven = Run.weights(1, 1, 1, 1, 1, 1, 1);
        Edge.is("the eighth one", seven.ask(r -> r.resident(4)), 7);
        Run eight = seven.then(r -> r.resident(4));
        Edge.is("eight", eight.ask(r -> r.count(1)), 8);
        Edge.refused("the ninth one", eight, r -> r.resident(4), CleaningRota.TOO_MANY);
        Edge.is("the eighth one's weight", eight.ask(r -> r.about(7, 0)), 4);
        Edge.is("there is room again", eight.then(CleaningRota::undo).ask(r -> r.resident(5)), 7);
        Edge.is("the eighth one of them gets a task, too",
            eight.efforts(9, 8, 7, 6, 5, 4).then(r -> r.away(0, 0, 0), r -> r.away(1, 0, 0), r -> r.away(2, 0, 0))
                .then(CleaningRota::plan).ask(r -> r.task(4, 1)), 7);
    }

    private static void weights() {
        Edge.of("Residents and areas", "A resident has a weight (1 to 10): how great the resident's share is;");
        Edge.range("resident", BUSY, weight -> r -> r.resident(weight), 1, 10, CleaningRota.BAD_VALUE);
        // 5 over 10 is as much as 0.5 over 1: the one with the weight 10 has ten times the share.
        Run run = Run.weights(1, 10).efforts(5, 5, 5, 5, 5, 5).doWeeks(1);
        Edge.is("the share of the weight 1", run.ask(r -> r.about(0, 1)), 5);
        Edge.is("the share of the weight 10", run.ask(r -> r.about(1, 1)), 25);
        run = Run.weights(1, 10).efforts(1, 1, 1, 1, 1, 1).doWeeks(11);
        Edge.is("the share of the weight 1 of 66", run.ask(r -> r.about(0, 1)), 6);
        Edge.is("the share of the weight 10 of 66", run.ask(r -> r.about(1, 1)), 60);
    }

    private static void awayWeeks() {
        Edge.of("Residents and areas", "can be away from one week to another one (both of them, too);");
        int[] isAway = {0, 0, 1, 1, 1, 0};
        for (int week = 0; week < isAway.length; week++) {
            Run run = Run.weights(1, 1).efforts(5).then(r -> r.away(0, 2, 4)).skipWeeks(week);
            Edge.is("away from 2 to 4, in week " + week, run.ask(r -> r.about(0, 8)), isAway[week]);
            Edge.is("the other one, in week " + week, run.ask(r -> r.about(1, 8)), 0);
            Run planned = Run.weights(1, 1).then(r -> r.away(0, 2, 4)).skipWeeks(week).efforts(5).then(CleaningRota::plan);
            Edge.is("who gets the task of week " + week, planned.ask(r -> r.task(0, 1)), isAway[week]);
        }
        for (int week = 2; week <= 4; week++) {
            Run run = Run.weights(1).then(r -> r.away(0, 3, 3)).skipWeeks(week);
            Edge.is("away for one week, in week " + week, run.ask(r -> r.about(0, 8)), week == 3 ? 1 : 0);
        }
    }

    private static void newResidents() {
        Edge.of("Residents and areas", "has done work (0 at first), a debt (0 at first), and penalty points (0 at first).");
        Edge.are("a new resident: number", Run.weights(6), what -> r -> r.about(0, what), 6, 0, 0, 0, 0, 0, 0, CleaningRota.NONE, 0);
        Edge.are("new among others: number", BUSY.then(r -> r.resident(6)), what -> r -> r.about(3, what),
            6, 0, 0, 0, 0, 0, 0, CleaningRota.NONE, 0);
        Run again = Run.weights(1, 1).efforts(5, 4).then(CleaningRota::plan).doTasks(0).then(CleaningRota::end)
            .times(6, CleaningRota::undo);
        Edge.is("one is left of two who had worked", again.ask(r -> r.count(1)), 1);
        Edge.are("new in the place of one who was undone: number", again.then(r -> r.resident(6)), what -> r -> r.about(1, what),
            6, 0, 0, 0, 0, 0, 0, CleaningRota.NONE, 0);
    }

    private static void sixAreas() {
        Edge.of("Residents and areas", "There are up to 6 areas.");
        Run five = Run.weights(1).efforts(1, 1, 1, 1, 1);
        Edge.is("the sixth one", five.ask(r -> r.area(9, 1, 3)), 5);
        Run six = five.then(r -> r.area(9, 1, 3));
        Edge.is("six", six.ask(r -> r.count(2)), 6);
        Edge.refused("the seventh one", six, r -> r.area(9, 1, 3), CleaningRota.TOO_MANY);
        Edge.is("the sixth one gets a task", six.then(CleaningRota::plan).ask(r -> r.task(0, 0)), 5);
        Edge.is("the sixth one can be cleaned", six.skipWeeks(1).then(r -> r.extra(0, 5)).ask(r -> r.room(5, 6)), 1);
        Edge.is("there is room again", six.then(CleaningRota::undo).ask(r -> r.area(1, 1, 1)), 5);
    }

    private static void areas() {
        Edge.of("Residents and areas", "An area has an effort (1 to 20), a period (1 to 4 weeks), and a growth of dirt for each "
            + "week (0 to 200);");
        Edge.range("effort", BUSY, effort -> r -> r.area(effort, 1, 1), 1, 20, CleaningRota.BAD_VALUE);
        Edge.range("period", BUSY, period -> r -> r.area(1, period, 1), 1, 4, CleaningRota.BAD_VALUE);
        Edge.range("growth", BUSY, growth -> r -> r.area(1, 1, growth), 0, 200, CleaningRota.BAD_VALUE);
        Run run = Run.weights(1).then(r -> r.area(1, 1, 0), r -> r.area(20, 4, 200)).skipWeeks(1);
        Edge.are("the least: number", run, what -> r -> r.room(0, what), 1, 1, 0, 0, 0, 1, 0);
        Edge.are("the greatest: number", run, what -> r -> r.room(1, what), 20, 4, 200, 200, 0, 1, 0);
    }

    private static void dirt() {
        Edge.of("Residents and areas", "its dirt is 0 at first, and 1000 at most.");
        Run run = Run.of(r -> r.area(1, 1, 200), r -> r.area(1, 1, 199), r -> r.area(1, 1, 0));
        Edge.are("at first: dirt", run, area -> r -> r.room(area, 3), 0, 0, 0);
        Edge.are("in week 4: dirt", run.skipWeeks(4), area -> r -> r.room(area, 3), 800, 796, 0);
        Edge.are("in week 5: dirt", run.skipWeeks(5), area -> r -> r.room(area, 3), 1000, 995, 0);
        Edge.are("in week 6: dirt", run.skipWeeks(6), area -> r -> r.room(area, 3), 1000, 1000, 0);
        Edge.are("in week 30: dirt", run.skipWeeks(30), area -> r -> r.room(area, 3), 1000, 1000, 0);
        Edge.is("at first: the greatest", run.ask(r -> r.forecast(0, 3)), 0);
        Edge.is("forecast of week 5", run.ask(r -> r.forecast(5, 3)), 1000);
        Edge.is("forecast of week 6", run.ask(r -> r.forecast(6, 3)), 1000);
    }

    private static void firstSettings() {
        Edge.of("Settings", "(In parentheses: range; first value.)");
        Edge.are("first value", Run.of(), setting -> r -> r.count(13 + setting), 20, 25, 3, 250);
        Edge.is("the first setting is not -1", Run.of().ask(r -> r.set(-1, 20)), CleaningRota.BAD_VALUE);
        Edge.is("the last setting is not 4", Run.of().ask(r -> r.set(4, 20)), CleaningRota.BAD_VALUE);
    }

    /** One task skipped with this penalty, and no decay. */
    private static Run skippedWith(int penalty) {
        return Run.weights(1).efforts(5).then(r -> r.set(PENALTY, penalty), r -> r.set(DECAY, 0)).skipWeeks(1);
    }

    private static void penalty() {
        Edge.of("Settings", "PENALTY (0 to 100; 20): points for a task that is skipped.");
        Edge.range("set(PENALTY)", BUSY, value -> r -> r.set(PENALTY, value), 0, 100, CleaningRota.BAD_VALUE);
        Edge.is("the least", skippedWith(0).ask(r -> r.about(0, 3)), 0);
        Edge.is("1", skippedWith(1).ask(r -> r.about(0, 3)), 1);
        Edge.is("the greatest", skippedWith(100).ask(r -> r.about(0, 3)), 100);
        Edge.is("the first value", Run.weights(1).efforts(5).then(r -> r.set(DECAY, 0)).skipWeeks(1).ask(r -> r.about(0, 3)), 20);
        Edge.is("no task is skipped", Run.weights(1).efforts(5).doWeeks(1).ask(r -> r.about(0, 3)), 0);
    }

    /** 100 points, then this decay. */
    private static Run decayedBy(int decay) {
        return Run.weights(1).efforts(5).then(r -> r.set(PENALTY, 100), r -> r.set(DECAY, decay)).skipWeeks(1);
    }

    private static void decay() {
        Edge.of("Settings", "DECAY (0 to 100; 25): how many hundredths of the points go in a week.");
        Edge.range("set(DECAY)", BUSY, value -> r -> r.set(DECAY, value), 0, 100, CleaningRota.BAD_VALUE);
        Edge.is("the least", decayedBy(0).ask(r -> r.about(0, 3)), 100);
        Edge.is("1", decayedBy(1).ask(r -> r.about(0, 3)), 99);
        Edge.is("99", decayedBy(99).ask(r -> r.about(0, 3)), 1);
        Edge.is("the greatest", decayedBy(100).ask(r -> r.about(0, 3)), 0);
        Edge.is("the first value", Run.weights(1).efforts(5).then(r -> r.set(PENALTY, 100)).skipWeeks(1).ask(r -> r.about(0, 3)), 75);
    }

    /** The effort of a deep task in an area with this effort. */
    private static int deepEffort(Run settings, int effort) {
        return settings.then(r -> r.resident(1), r -> r.area(effort, 1, 1), r -> r.set(DIRTY, 1))
            .skipWeeks(1).then(CleaningRota::plan).ask(r -> r.task(0, 2));
    }

    private static void deep() {
        Edge.of("Settings", "DEEP (2 to 6; 3): how many times the effort a deep clean takes.");
        Edge.range("set(DEEP)", BUSY, value -> r -> r.set(DEEP, value), 2, 6, CleaningRota.BAD_VALUE);
        Edge.is("half of twice 20", deepEffort(Run.of(r -> r.set(DEEP, 2)), 20), 20);
        Edge.is("half of six times 20", deepEffort(Run.of(r -> r.set(DEEP, 6)), 20), 60);
        Edge.is("half of the first value's 20", deepEffort(Run.of(), 20), 30);
        Edge.is("half of twice 1", deepEffort(Run.of(r -> r.set(DEEP, 2)), 1), 1);
        Edge.is("half of six times 1", deepEffort(Run.of(r -> r.set(DEEP, 6)), 1), 3);
        Edge.is("half of the first value's 1, and a half", deepEffort(Run.of(), 1), 2);
    }

    private static Run grown(int growth, int weeks, Run.Call... settings) {
        return Run.of(r -> r.area(1, 1, growth)).skipWeeks(weeks).then(settings);
    }

    private static void dirty() {
        Edge.of("Settings", "DIRTY (1 to 1000; 250): the dirt from which on an area needs one.");
        Edge.range("set(DIRTY)", BUSY, value -> r -> r.set(DIRTY, value), 1, 1000, CleaningRota.BAD_VALUE);
        Edge.is("0 with DIRTY 1", grown(1, 0, r -> r.set(DIRTY, 1)).ask(r -> r.room(0, 4)), 0);
        Edge.is("1 with DIRTY 1", grown(1, 1, r -> r.set(DIRTY, 1)).ask(r -> r.room(0, 4)), 1);
        Edge.is("1 with DIRTY 2", grown(1, 1, r -> r.set(DIRTY, 2)).ask(r -> r.room(0, 4)), 0);
        Edge.is("999 with DIRTY 1000", grown(111, 9, r -> r.set(DIRTY, 1000)).ask(r -> r.room(0, 4)), 0);
        Edge.is("1000 with DIRTY 1000", grown(200, 5, r -> r.set(DIRTY, 1000)).ask(r -> r.room(0, 4)), 1);
        Edge.is("1000 at most with DIRTY 1000", grown(111, 10, r -> r.set(DIRTY, 1000)).ask(r -> r.room(0, 4)), 1);
        Edge.is("249 with the first value", grown(83, 3).ask(r -> r.room(0, 4)), 0);
        Edge.is("250 with the first value", grown(125, 2).ask(r -> r.room(0, 4)), 1);
    }
}
