/** Boundaries that the promises 1 to 6 name. */
final class EdgesOfHouse {
    private static final int PENALTY = CleaningRota.PENALTY, DECAY = CleaningRota.DECAY;
    private static final int DEEP = CleaningRota.DEEP, DIRTY = CleaningRota.DIRTY;
    private static final Run NEW = Run.of(), BUSY = Run.busy(), FULL = Run.full();

    private EdgesOfHouse() {
    }

    static void run() {
        newHouse();
        firstCallsOfANewHouse();
        resident();
        weigh();
        away();
        awayWeeks();
        area();
        set();
    }

    private static void newHouse() {
        Edge.of("Promise 1", "CleaningRota(): Creates a house without residents and areas, in the week 0, which is not planned.");
        Edge.are("count", NEW, what -> r -> r.count(what), 0, 0, 0, 0, 0, 0, 0, 0, 0, 0, 0, 0, 0, 20, 25, 3, 250);
        Edge.is("no resident", NEW.ask(r -> r.about(0, 0)), CleaningRota.NO_SUCH);
        Edge.is("no area", NEW.ask(r -> r.room(0, 0)), CleaningRota.NO_SUCH);
        Edge.is("no task", NEW.ask(r -> r.task(0, 0)), CleaningRota.NO_SUCH);
        Edge.is("no swap", NEW.ask(r -> r.swap(0, 0)), CleaningRota.NO_SUCH);
        CleaningRota other = new CleaningRota();
        FULL.play();
        Edge.is("another house changes nothing in it", other.count(1) + other.count(2) + other.count(11) + other.count(12), 0);
    }

    private static void firstCallsOfANewHouse() {
        Edge.refusedWithoutChange("weigh", NEW, r -> r.weigh(0, 1), CleaningRota.NO_SUCH);
        Edge.refusedWithoutChange("away", NEW, r -> r.away(0, 0, 0), CleaningRota.NO_SUCH);
        Edge.refusedWithoutChange("done", NEW, r -> r.done(0), CleaningRota.NO_SUCH);
        Edge.refusedWithoutChange("extra", NEW, r -> r.extra(0, 0), CleaningRota.NO_SUCH);
        Edge.refusedWithoutChange("end", NEW, CleaningRota::end, CleaningRota.NOT_POSSIBLE);
        Edge.refusedWithoutChange("propose", NEW, r -> r.propose(0, 0), CleaningRota.NO_SUCH);
        Edge.refusedWithoutChange("answer", NEW, r -> r.answer(0, 1), CleaningRota.NO_SUCH);
        Edge.refusedWithoutChange("load", NEW, CleaningRota::load, CleaningRota.BAD_TEXT);
        Edge.refusedWithoutChange("undo", NEW, CleaningRota::undo, CleaningRota.NOT_POSSIBLE);
        Edge.is("plan", NEW.ask(CleaningRota::plan), 0);
        Edge.is("wipe", NEW.ask(CleaningRota::wipe), 0);
        Edge.is("fault", NEW.ask(CleaningRota::fault), 0);
        Edge.is("fairer", NEW.ask(r -> r.fairer(2)), CleaningRota.NONE);
        Edge.is("forecast", NEW.ask(r -> r.forecast(60, 3)), 0);
    }

    private static void resident() {
        Edge.of("Promise 2", "int resident(int weight): Adds a resident.");
        Edge.is("one more", BUSY.then(r -> r.resident(1)).ask(r -> r.count(1)), 4);
        Edge.of("Promise 2", "weight: 1 to 10");
        Edge.range("in a new house", NEW.then(r -> r.set(PENALTY, 1)), weight -> r -> r.resident(weight), 1, 10,
            CleaningRota.BAD_VALUE);
        Edge.is("the least is kept", Run.weights(1).ask(r -> r.about(0, 0)), 1);
        Edge.is("the greatest is kept", Run.weights(10).ask(r -> r.about(0, 0)), 10);
        Edge.of("Promise 2", "Returns the number of the resident;");
        for (int number = 0; number < 8; number++) {
            Run run = NEW.times(number, r -> r.resident(2));
            Edge.is("behind " + number, run.ask(r -> r.resident(3)), number);
        }
        Edge.of("Promise 2", "BAD_VALUE if weight is out of range; TOO_MANY if there are 8 residents.");
        Run eight = NEW.times(8, r -> r.resident(3));
        Edge.refusedOutside("weight, of the ninth one", eight, weight -> r -> r.resident(weight), 1, 10, CleaningRota.BAD_VALUE);
        Edge.refused("the ninth one of the least weight", eight, r -> r.resident(1), CleaningRota.TOO_MANY);
        Edge.refused("the ninth one of the greatest weight", eight, r -> r.resident(10), CleaningRota.TOO_MANY);
        Edge.refused("the ninth one in a full house", FULL, r -> r.resident(5), CleaningRota.TOO_MANY);
    }

    private static void weigh() {
        Edge.of("Promise 3", "int weigh(int resident, int weight): Changes a weight.");
        Edge.are("weight", Run.weights(4, 5, 6).then(r -> r.weigh(1, 9)), resident -> r -> r.about(resident, 0), 4, 9, 6);
        Edge.of("Promise 3", "weight: 1 to 10");
        Edge.range("weight", BUSY, weight -> r -> r.weigh(0, weight), 1, 10, CleaningRota.BAD_VALUE);
        Edge.is("the least is kept", BUSY.then(r -> r.weigh(0, 1)).ask(r -> r.about(0, 0)), 1);
        Edge.is("the greatest is kept", BUSY.then(r -> r.weigh(0, 10)).ask(r -> r.about(0, 0)), 10);
        Edge.of("Promise 3", "Returns the previous weight;");
        Edge.is("from the least", Run.weights(1).ask(r -> r.weigh(0, 10)), 1);
        Edge.is("from the greatest", Run.weights(10).ask(r -> r.weigh(0, 1)), 10);
        Edge.is("the same weight again", Run.weights(7).ask(r -> r.weigh(0, 7)), 7);
        Edge.of("Promise 3", "NO_SUCH if there is no such resident;");
        Edge.range("of three", BUSY, resident -> r -> r.weigh(resident, 5), 0, 2, CleaningRota.NO_SUCH);
        Edge.range("of eight", FULL, resident -> r -> r.weigh(resident, 5), 0, 7, CleaningRota.NO_SUCH);
        Edge.refusedWithoutChange("of none", NEW, r -> r.weigh(0, 5), CleaningRota.NO_SUCH);
        Edge.refusedWithoutChange("of one who was undone", Run.weights(1).then(CleaningRota::undo), r -> r.weigh(0, 5),
            CleaningRota.NO_SUCH);
        Edge.of("Promise 3", "BAD_VALUE if weight is out of range.");
        Edge.refusedOutside("of the last resident", FULL, weight -> r -> r.weigh(7, weight), 1, 10, CleaningRota.BAD_VALUE);
        Edge.refused("of nobody", FULL, r -> r.weigh(8, 0), CleaningRota.NO_SUCH);
    }

    private static void away() {
        Edge.of("Promise 4", "int away(int resident, int from, int to): Tells when a resident is away (in place of what was told "
            + "before).");
        Run run = Run.weights(1, 1).then(r -> r.away(0, 0, 3));
        Edge.is("told once", run.ask(r -> r.about(0, 8)), 1);
        Edge.is("of another one", run.then(r -> r.away(1, 1, 1)).ask(r -> r.about(0, 8)), 1);
        Edge.is("told again", run.then(r -> r.away(0, 2, 3)).ask(r -> r.about(0, 8)), 0);
        Edge.is("told again, a week of the first time", run.then(r -> r.away(0, 2, 3)).skipWeeks(1).ask(r -> r.about(0, 8)), 0);
        Edge.is("told again, a week of both", run.then(r -> r.away(0, 2, 3)).skipWeeks(2).ask(r -> r.about(0, 8)), 1);
        Edge.of("Promise 4", "Tasks that are given stay.");
        Run given = Run.weights(1, 1).efforts(5, 4).then(CleaningRota::plan, r -> r.away(0, 0, 5));
        Edge.are("resident", given, task -> r -> r.task(task, 1), 0, 1);
        Edge.is("it can be done", given.ask(r -> r.done(0)), 5);
        Edge.is("it can be swapped", given.ask(r -> r.propose(0, 1)), 1);
        Edge.is("it is skipped", given.then(CleaningRota::end).ask(r -> r.about(0, 2)), 5);
        Edge.is("a forecast does it, too", given.ask(r -> r.forecast(1, 1)), 2);
        Edge.is("the next one is given to the other one", given.then(CleaningRota::end, CleaningRota::plan).ask(r -> r.task(0, 1)), 1);
    }

    private static void awayWeeks() {
        Edge.of("Promise 4", "from: a week, 0 to 999");
        Edge.range("from", BUSY, from -> r -> r.away(0, from, 999), 0, 999, CleaningRota.BAD_VALUE);
        Edge.of("Promise 4", "to: from to 999");
        Edge.range("to, from 0 on", BUSY, to -> r -> r.away(0, 0, to), 0, 999, CleaningRota.BAD_VALUE);
        Edge.range("to, from 500 on", BUSY, to -> r -> r.away(0, 500, to), 500, 999, CleaningRota.BAD_VALUE);
        Edge.range("to, from 999 on", BUSY, to -> r -> r.away(0, 999, to), 999, 999, CleaningRota.BAD_VALUE);
        Edge.refused("from ahead of the first week, to behind the last one", BUSY, r -> r.away(0, -1, 1000), CleaningRota.BAD_VALUE);
        Edge.refused("from and to ahead of the first week", BUSY, r -> r.away(0, -1, -1), CleaningRota.BAD_VALUE);
        Edge.refused("from and to behind the last week", BUSY, r -> r.away(0, 1000, 1000), CleaningRota.BAD_VALUE);
        Edge.of("Promise 4", "Returns 1 if the resident is away in the present week then, 0 if not;");
        Run weekOne = Run.weights(1).skipWeeks(1);
        Edge.is("from the present week on", weekOne.ask(r -> r.away(0, 1, 999)), 1);
        Edge.is("in the present week alone", weekOne.ask(r -> r.away(0, 1, 1)), 1);
        Edge.is("up to the present week", weekOne.ask(r -> r.away(0, 0, 1)), 1);
        Edge.is("up to the week before", weekOne.ask(r -> r.away(0, 0, 0)), 0);
        Edge.is("from the next week on", weekOne.ask(r -> r.away(0, 2, 999)), 0);
        Edge.is("from the last week on", weekOne.ask(r -> r.away(0, 999, 999)), 0);
        Edge.is("not any more", weekOne.then(r -> r.away(0, 0, 999)).ask(r -> r.away(0, 2, 2)), 0);
        Edge.of("Promise 4", "NO_SUCH if there is no such resident; BAD_VALUE if another argument is out of range.");
        Edge.range("of three", BUSY, resident -> r -> r.away(resident, 0, 0), 0, 2, CleaningRota.NO_SUCH);
        Edge.range("of eight", FULL, resident -> r -> r.away(resident, 0, 0), 0, 7, CleaningRota.NO_SUCH);
        Edge.refused("nobody, from out of range", BUSY, r -> r.away(3, -1, 0), CleaningRota.NO_SUCH);
        Edge.refused("nobody, to out of range", BUSY, r -> r.away(-1, 0, 1000), CleaningRota.NO_SUCH);
    }

    private static void area() {
        Edge.of("Promise 5", "int area(int effort, int period, int growth): Adds an area.");
        Edge.is("one more", BUSY.then(r -> r.area(1, 1, 0)).ask(r -> r.count(2)), 5);
        Edge.is("none of the tasks there are", BUSY.then(r -> r.area(1, 1, 0)).ask(r -> r.count(3)), 5);
        Run five = NEW.times(5, r -> r.area(7, 1, 9));
        Edge.of("Promise 5", "effort: 1 to 20");
        Edge.range("effort", five, effort -> r -> r.area(effort, 4, 200), 1, 20, CleaningRota.BAD_VALUE);
        Edge.of("Promise 5", "period: 1 to 4");
        Edge.range("period", five, period -> r -> r.area(20, period, 200), 1, 4, CleaningRota.BAD_VALUE);
        Edge.of("Promise 5", "growth: 0 to 200");
        Edge.range("growth", five, growth -> r -> r.area(20, 4, growth), 0, 200, CleaningRota.BAD_VALUE);
        Edge.of("Promise 5", "Returns its number;");
        for (int number = 0; number < 6; number++) {
            Edge.is("behind " + number, NEW.times(number, r -> r.area(7, 1, 9)).ask(r -> r.area(8, 2, 3)), number);
        }
        Edge.of("Promise 5", "BAD_VALUE if an argument is out of range; TOO_MANY if there are 6 areas.");
        Run six = NEW.times(6, r -> r.area(7, 1, 9));
        Edge.refused("the seventh one, the least", six, r -> r.area(1, 1, 0), CleaningRota.TOO_MANY);
        Edge.refused("the seventh one, the greatest", six, r -> r.area(20, 4, 200), CleaningRota.TOO_MANY);
        Edge.refused("the seventh one in a full house", FULL, r -> r.area(1, 1, 0), CleaningRota.TOO_MANY);
        Edge.refusedOutside("effort, of the seventh one", six, effort -> r -> r.area(effort, 1, 0), 1, 20, CleaningRota.BAD_VALUE);
        Edge.refusedOutside("period, of the seventh one", six, period -> r -> r.area(1, period, 0), 1, 4, CleaningRota.BAD_VALUE);
        Edge.refusedOutside("growth, of the seventh one", six, growth -> r -> r.area(1, 1, growth), 0, 200, CleaningRota.BAD_VALUE);
    }

    private static void set() {
        Edge.of("Promise 6", "int set(int setting, int value): Changes a setting.");
        for (int setting = 0; setting < 4; setting++) {
            int changed = setting;
            int[] due = {20, 25, 3, 250};
            due[setting] = 4;
            Edge.are("setting " + setting + " is 4: setting", NEW.then(r -> r.set(changed, 4)), asked -> r -> r.count(13 + asked), due);
        }
        Edge.of("Promise 6", "Returns the previous value;");
        Edge.is("PENALTY, the first value", NEW.ask(r -> r.set(PENALTY, 0)), 20);
        Edge.is("PENALTY, the least", NEW.then(r -> r.set(PENALTY, 0)).ask(r -> r.set(PENALTY, 100)), 0);
        Edge.is("PENALTY, the greatest", NEW.then(r -> r.set(PENALTY, 100)).ask(r -> r.set(PENALTY, 100)), 100);
        Edge.is("DECAY, the first value", NEW.ask(r -> r.set(DECAY, 100)), 25);
        Edge.is("DECAY, the least", NEW.then(r -> r.set(DECAY, 0)).ask(r -> r.set(DECAY, 0)), 0);
        Edge.is("DECAY, the greatest", NEW.then(r -> r.set(DECAY, 100)).ask(r -> r.set(DECAY, 0)), 100);
        Edge.is("DEEP, the first value", NEW.ask(r -> r.set(DEEP, 2)), 3);
        Edge.is("DEEP, the least", NEW.then(r -> r.set(DEEP, 2)).ask(r -> r.set(DEEP, 6)), 2);
        Edge.is("DEEP, the greatest", NEW.then(r -> r.set(DEEP, 6)).ask(r -> r.set(DEEP, 2)), 6);
        Edge.is("DIRTY, the first value", NEW.ask(r -> r.set(DIRTY, 1)), 250);
        Edge.is("DIRTY, the least", NEW.then(r -> r.set(DIRTY, 1)).ask(r -> r.set(DIRTY, 1000)), 1);
        Edge.is("DIRTY, the greatest", NEW.then(r -> r.set(DIRTY, 1000)).ask(r -> r.set(DIRTY, 1)), 1000);
        Edge.of("Promise 6", "BAD_VALUE if there is no such setting, or the value is out of its range.");
        Edge.range("setting", BUSY, setting -> r -> r.set(setting, 5), 0, 3, CleaningRota.BAD_VALUE);
        Edge.refusedOutside("setting, with a value of none", BUSY, setting -> r -> r.set(setting, -1), 0, 3, CleaningRota.BAD_VALUE);
        Edge.refusedOutside("PENALTY", FULL, value -> r -> r.set(PENALTY, value), 0, 100, CleaningRota.BAD_VALUE);
        Edge.refusedOutside("DECAY", FULL, value -> r -> r.set(DECAY, value), 0, 100, CleaningRota.BAD_VALUE);
        Edge.refusedOutside("DEEP", FULL, value -> r -> r.set(DEEP, value), 2, 6, CleaningRota.BAD_VALUE);
        Edge.refusedOutside("DIRTY", FULL, value -> r -> r.set(DIRTY, value), 1, 1000, CleaningRota.BAD_VALUE);
    }
}
