import java.util.Arrays;

/** Boundaries that the promise 24 names. */
final class EdgesOfUndo {
    private static final int DEEP = CleaningRota.DEEP;
    private static final Run NEW = Run.of(), BUSY = Run.busy(), FULL = Run.full();
    /** Week 1 of a house with debts, planned, with a swap. */
    private static final Run WEEK = Run.weights(1, 2).then(r -> r.area(6, 1, 70), r -> r.area(5, 1, 0)).skipWeeks(1)
        .then(CleaningRota::plan, r -> r.propose(0, 1));

    private EdgesOfUndo() {
    }

    static void run() {
        latestChange();
        eachKind();
        allButThePad();
        sixStates();
        oldestIsDropped();
        restored();
        answers();
    }

    private static void latestChange() {
        Edge.of("Promise 24", "int undo(): Undoes the latest change.");
        Run run = NEW.then(r -> r.set(DEEP, 4), r -> r.set(DEEP, 5), r -> r.set(DEEP, 6));
        Edge.is("once", run.then(CleaningRota::undo).ask(r -> r.count(15)), 5);
        Edge.is("twice", run.times(2, CleaningRota::undo).ask(r -> r.count(15)), 4);
        Edge.is("three times", run.times(3, CleaningRota::undo).ask(r -> r.count(15)), 3);
        Edge.is("undo() is no change", run.then(CleaningRota::undo, r -> r.set(DEEP, 2), CleaningRota::undo).ask(r -> r.count(15)), 5);
        Edge.is("a refused call is no change", run.then(r -> r.set(DEEP, 7), CleaningRota::undo).ask(r -> r.count(15)), 5);
    }

    /** One more state is recorded, and undo() brings the state ahead of the change back. */
    private static void recorded(String what, Run before, Run.Call change) {
        Run after = before.then(change);
        Edge.is(what + ": states", after.ask(r -> r.count(12)), Math.min(6, before.ask(r -> r.count(12)) + 1));
        Edge.sameButForStates(what + ": taken back", after.then(CleaningRota::undo), before);
    }

    private static void notRecorded(String what, Run before, Run.Call call) {
        Edge.is(what + ": states", before.then(call).ask(r -> r.count(12)), before.ask(r -> r.count(12)));
        Edge.sameButForPad(what + ": undo() takes back the change ahead of it", before.then(call, CleaningRota::undo),
            before.then(CleaningRota::undo));
    }

    private static void eachKind() {
        Edge.of("Promise 24", "A history of at most 6 states of the house is kept: each successful call of resident(), weigh(), away(), "
            + "area(), set(), plan(), done(), extra(), end(), propose(), answer() and load() records the state before it");
        for (Run run : new Run[] {BUSY, WEEK}) {
            recorded("resident", run, r -> r.resident(4));
            recorded("weigh", run, r -> r.weigh(0, 10));
            recorded("weigh, the same weight", run, r -> r.weigh(0, r.about(0, 0)));
            recorded("away", run, r -> r.away(0, 1, 5));
            recorded("area", run, r -> r.area(3, 2, 1));
            recorded("set", run, r -> r.set(3, 1));
            recorded("set, the same value", run, r -> r.set(DEEP, 3));
            recorded("plan", run.then(CleaningRota::end), CleaningRota::plan);
            recorded("done", run, r -> r.done(1));
            recorded("extra", run, r -> r.extra(1, 0));
            recorded("end", run, CleaningRota::end);
            recorded("propose", run, r -> r.propose(1, 0));
            recorded("answer, accepted", run, r -> r.answer(0, 1));
            recorded("answer, declined", run, r -> r.answer(0, 0));
        }
        recorded("resident, in a new house", NEW, r -> r.resident(4));
        recorded("area, in a new house", NEW, r -> r.area(1, 1, 1));
        recorded("set, in a new house", NEW, r -> r.set(0, 0));
        recorded("plan, in a new house", NEW, CleaningRota::plan);
        recorded("plan, without a task", Run.weights(1), CleaningRota::plan);
        recorded("end, in an empty house", Run.of(CleaningRota::plan), CleaningRota::end);
        notRecorded("put", BUSY, Run.put("1"));
        notRecorded("wipe", BUSY, CleaningRota::wipe);
        notRecorded("fault", BUSY, CleaningRota::fault);
        notRecorded("count", BUSY, r -> r.count(0));
        notRecorded("forecast", BUSY, r -> r.forecast(5, 0));
        notRecorded("fairer", BUSY, r -> r.fairer(0));
        notRecorded("about", BUSY, r -> r.about(0, 0));
        notRecorded("room", BUSY, r -> r.room(0, 0));
        notRecorded("task", BUSY, r -> r.task(0, 0));
        notRecorded("swap", BUSY, r -> r.swap(0, 0));
    }

    private static void allButThePad() {
        Edge.of("Promise 24", "(all but the pad);");
        Run run = Run.weights(1, 1).efforts(5, 4).then(CleaningRota::plan);
        Run loaded = run.pad("0-1").then(CleaningRota::load);
        Edge.is("states behind load()", loaded.ask(r -> r.count(12)), 6);
        Edge.sameButForStates("load, taken back: the pad is empty", loaded.then(CleaningRota::undo), run);
        Run nothing = run.pad("2-99").then(CleaningRota::load);
        Edge.is("nothing became done", nothing.answer(), 0);
        Edge.is("nothing became done: states", nothing.ask(r -> r.count(12)), 6);
        Edge.sameButForStates("nothing became done, taken back", nothing.then(CleaningRota::undo), run);
        Edge.is("what was put behind the change stays", run.then(Run.put("1,"), CleaningRota::undo).ask(r -> r.count(11)), 2);
        Edge.is("what was wiped behind the change stays away",
            Run.of(Run.put("1,")).then(r -> r.set(0, 1), CleaningRota::wipe, CleaningRota::undo).ask(r -> r.count(11)), 0);
        Edge.is("a full pad stays", FULL.times(6, CleaningRota::undo).ask(r -> r.count(11)), 60);
        Edge.is("it has no fault still", FULL.times(6, CleaningRota::undo).ask(CleaningRota::fault), CleaningRota.NONE);
        Edge.refusedWithoutChange("a pad alone is no state", NEW.pad("1,2"), CleaningRota::undo, CleaningRota.NOT_POSSIBLE);
    }

    /** This many weights, from 1 on, of the only resident. */
    private static Run weighed(int times) {
        Run run = Run.weights(10);
        for (int i = 1; i <= times; i++) {
            int weight = i;
            run = run.then(r -> r.weigh(0, weight));
        }
        return run;
    }

    private static void sixStates() {
        int[] states = {1, 2, 3, 4, 5, 6, 6, 6};
        for (int times = 0; times < states.length; times++) {
            Edge.is(times + 1 + " changes: states", weighed(times).ask(r -> r.count(12)), states[times]);
            Run all = weighed(times).times(states[times], CleaningRota::undo);
            Edge.is(times + 1 + " changes: the last undo()", all.answer(), 0);
            Edge.is(times + 1 + " changes: one undo() more", all.ask(CleaningRota::undo), CleaningRota.NOT_POSSIBLE);
        }
    }

    private static void oldestIsDropped() {
        Edge.of("Promise 24", "when one more is recorded, the oldest one is dropped;");
        Edge.is("the sixth change: the house was empty", weighed(5).times(6, CleaningRota::undo).ask(r -> r.count(1)), 0);
        Edge.is("the seventh change: the resident stays", weighed(6).times(7, CleaningRota::undo).ask(r -> r.about(0, 0)), 10);
        Edge.is("the eighth change: so does the first weight", weighed(7).times(7, CleaningRota::undo).ask(r -> r.about(0, 0)), 1);
        Edge.is("the eighth change: the latest one goes first", weighed(7).then(CleaningRota::undo).ask(r -> r.about(0, 0)), 6);
        // Two are taken back and three come: 1 to 5, then 10, 9 and 8; seven in all.
        Run again = weighed(7).times(2, CleaningRota::undo).then(r -> r.weigh(0, 10), r -> r.weigh(0, 9), r -> r.weigh(0, 8));
        int[] weights = {8, 9, 10, 5, 4, 3, 2, 2};
        for (int times = 0; times < weights.length; times++) {
            Edge.is("again: weight after " + times, again.times(times, CleaningRota::undo).ask(r -> r.about(0, 0)), weights[times]);
        }
        Run many = weighed(10).times(45, r -> r.weigh(0, 3), r -> r.weigh(0, 4), r -> r.weigh(0, 5));
        Edge.is("after many changes: states", many.ask(r -> r.count(12)), 6);
        Edge.is("after many changes: six back", many.times(6, CleaningRota::undo).ask(r -> r.about(0, 0)), 5);
    }

    private static void restored() {
        Edge.of("Promise 24", "undo() removes the latest one and restores it.");
        Run.Call[] changes = {r -> r.set(0, 77), CleaningRota::end, CleaningRota::plan, r -> r.done(0), r -> r.weigh(0, 9),
            r -> r.away(0, 1, 2)};
        for (Run start : new Run[] {BUSY, FULL, WEEK}) {
            Run changed = start.then(changes);
            for (int times = 1; times <= changes.length; times++) {
                Run.Call[] left = Arrays.copyOf(changes, changes.length - times);
                Edge.sameButForStates("taken back " + times + " of six", changed.times(times, CleaningRota::undo), start.then(left));
            }
        }
        Run six = WEEK.then(r -> r.weigh(0, 9), r -> r.area(9, 3, 7), CleaningRota::end, CleaningRota::plan, r -> r.done(0),
            CleaningRota::end);
        Edge.sameState("and then as if nothing had been", six.times(6, CleaningRota::undo).times(6, r -> r.set(0, 5)),
            WEEK.times(6, r -> r.set(0, 5)));
    }

    private static void answers() {
        Edge.of("Promise 24", "Returns how many states are kept then; NOT_POSSIBLE if there is none.");
        int[] due = {5, 4, 3, 2, 1, 0, CleaningRota.NOT_POSSIBLE, CleaningRota.NOT_POSSIBLE};
        for (int times = 1; times <= due.length; times++) {
            Run run = FULL.times(times, CleaningRota::undo);
            Edge.is("undo() " + times, run.answer(), due[times - 1]);
            Edge.is("undo() " + times + ": states", run.ask(r -> r.count(12)), Math.max(0, 6 - times));
        }
        Edge.refusedWithoutChange("in a new house", NEW, CleaningRota::undo, CleaningRota.NOT_POSSIBLE);
        Edge.refusedWithoutChange("when all was taken back", FULL.times(6, CleaningRota::undo), CleaningRota::undo,
            CleaningRota.NOT_POSSIBLE);
        Edge.is("a change comes again", FULL.times(7, CleaningRota::undo).then(r -> r.set(0, 1)).ask(CleaningRota::undo), 0);
        Edge.refusedWithoutChange("only errors so far", NEW.then(r -> r.resident(0), r -> r.area(0, 0, 0), CleaningRota::end),
            CleaningRota::undo, CleaningRota.NOT_POSSIBLE);
    }
}
