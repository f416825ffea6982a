/** Boundaries that "Swaps" and the promises 11 and 12 name. */
final class EdgesOfSwaps {
    private static final Run BUSY = Run.busy(), FULL = Run.full();
    /** Efforts 9, 8, 7, 6 for the residents 0, 1, 2 and 2. */
    private static final Run FOUR = Run.weights(1, 1, 2).efforts(9, 8, 7, 6).then(CleaningRota::plan);
    /** The swaps 0-1, 0-2, 0-3, 1-0, 1-2 and 1-3 of these tasks. */
    private static final Run SIX = FOUR.then(r -> r.propose(0, 1), r -> r.propose(0, 2), r -> r.propose(0, 3))
        .then(r -> r.propose(1, 0), r -> r.propose(1, 2), r -> r.propose(1, 3));

    private EdgesOfSwaps() {
    }

    static void run() {
        whoProposes();
        whoAccepts();
        sixSwaps();
        dropped();
        propose();
        proposeErrors();
        answer();
        answerErrors();
    }

    private static void swapIs(String what, Run run, int swap, int... due) {
        for (int number = 0; number < due.length; number++) {
            int asked = number;
            Edge.is(what + ": swap(" + swap + ", " + number + ")", run.ask(r -> r.swap(swap, asked)), due[number]);
        }
    }

    private static void residentsAre(String what, Run run, int... due) {
        Edge.are(what + ": resident", run, task -> r -> r.task(task, 1), due);
    }

    private static void whoProposes() {
        Edge.of("Swaps", "A swap of two open tasks of different residents is proposed by the resident of the first one;");
        residentsAre("four tasks", FOUR, 0, 1, 2, 2);
        swapIs("the first task and the last one", FOUR.then(r -> r.propose(0, 3)), 0, 0, 3, 0, 2);
        swapIs("the last task and the first one", FOUR.then(r -> r.propose(3, 0)), 0, 3, 0, 2, 0);
        Edge.refused("the first one is not open", FOUR.doTasks(0), r -> r.propose(0, 1), CleaningRota.NOT_POSSIBLE);
        Edge.refused("the second one is not open", FOUR.doTasks(0), r -> r.propose(1, 0), CleaningRota.NOT_POSSIBLE);
        Edge.refused("neither is open", FOUR.doTasks(0, 1), r -> r.propose(0, 1), CleaningRota.NOT_POSSIBLE);
        Edge.refused("the same resident", FOUR, r -> r.propose(2, 3), CleaningRota.NOT_POSSIBLE);
        Edge.is("both halves of a deep clean", FULL.then(r -> r.answer(0, 0)).ask(r -> r.propose(4, 5)), 6);
    }

    private static void whoAccepts() {
        Edge.of("Swaps", "when the resident of the second one accepts, both tasks change their residents.");
        Run proposed = FOUR.then(r -> r.propose(0, 3));
        residentsAre("proposed", proposed, 0, 1, 2, 2);
        residentsAre("accepted", proposed.then(r -> r.answer(0, 1)), 2, 1, 2, 0);
        residentsAre("declined", proposed.then(r -> r.answer(0, 0)), 0, 1, 2, 2);
        Edge.are("accepted: load", proposed.then(r -> r.answer(0, 1)), resident -> r -> r.about(resident, 4), 6, 8, 16);
        Edge.are("declined: load", proposed.then(r -> r.answer(0, 0)), resident -> r -> r.about(resident, 4), 9, 8, 13);
        Run back = proposed.then(r -> r.answer(0, 1), r -> r.propose(0, 3), r -> r.answer(0, 1));
        residentsAre("swapped back", back, 0, 1, 2, 2);
    }

    private static void sixSwaps() {
        Edge.of("Swaps", "There are up to 6 swaps that are not decided yet, in the order in which they were proposed.");
        Edge.is("six", SIX.ask(r -> r.count(7)), 6);
        int[][] due = {{0, 1, 0, 1}, {0, 2, 0, 2}, {0, 3, 0, 2}, {1, 0, 1, 0}, {1, 2, 1, 2}, {1, 3, 1, 2}};
        for (int swap = 0; swap < due.length; swap++) {
            swapIs("in their order", SIX, swap, due[swap]);
        }
        Edge.refused("the seventh one", SIX, r -> r.propose(2, 0), CleaningRota.TOO_MANY);
        Run decided = SIX.then(r -> r.answer(2, 0));
        Edge.is("one is decided: there is room", decided.ask(r -> r.propose(2, 0)), 6);
        swapIs("those ahead of it stay", decided, 1, due[1]);
        swapIs("those behind it move up", decided, 2, due[3]);
        swapIs("the last one moves up", decided, 4, due[5]);
        swapIs("the new one is the last one", decided.then(r -> r.propose(2, 0)), 5, 2, 0, 2, 0);
    }

    private static void dropped() {
        Edge.of("Swaps", "When a task is done, or changes its resident, all swaps with it are dropped.");
        Edge.is("done: 0 is in four of six", SIX.doTasks(0).ask(r -> r.count(7)), 2);
        swapIs("done: the ones that are left", SIX.doTasks(0), 0, 1, 2, 1, 2);
        swapIs("done: the ones that are left", SIX.doTasks(0), 1, 1, 3, 1, 2);
        Edge.is("done: 2 is the second one of two", SIX.doTasks(2).ask(r -> r.count(7)), 4);
        Edge.is("done: in all swaps", SIX.doTasks(0, 1).ask(r -> r.count(7)), 0);
        Edge.is("loaded: in all swaps", SIX.pad("0-1").then(CleaningRota::load).ask(r -> r.count(7)), 0);
        Run noSwapWithThree = FOUR.then(r -> r.propose(0, 1));
        Edge.is("done: in no swap", noSwapWithThree.doTasks(3).ask(r -> r.count(7)), 1);
        Run accepted = SIX.then(r -> r.answer(1, 1));
        Edge.is("0 and 2 changed their residents", accepted.answer(), 1);
        swapIs("the only one without them", accepted, 0, 1, 3, 1, 2);
        Edge.is("0 and 1 changed their residents: all have one of them", SIX.ask(r -> r.answer(0, 1)), 0);
        Run opposite = FOUR.then(r -> r.propose(0, 1), r -> r.propose(1, 0));
        Edge.is("the opposite one, too", opposite.ask(r -> r.answer(1, 1)), 0);
    }

    private static void propose() {
        Edge.of("Promise 11", "int propose(int one, int other): Proposes a swap.");
        residentsAre("no task changes its resident", FOUR.then(r -> r.propose(0, 1)), 0, 1, 2, 2);
        Edge.of("Promise 11", "one: a task: that of the resident who proposes");
        Edge.range("one", FOUR, one -> r -> r.propose(one, one == 0 ? 1 : 0), 0, 3, CleaningRota.NO_SUCH);
        Edge.range("one of twelve", FULL.then(r -> r.answer(0, 0)), one -> r -> r.propose(one, 5), 0, 11, CleaningRota.NO_SUCH);
        Edge.of("Promise 11", "other: another task");
        Edge.range("other", FOUR, other -> r -> r.propose(1, other), 0, 3, CleaningRota.NO_SUCH);
        Edge.refused("the same task", FOUR, r -> r.propose(1, 1), CleaningRota.NOT_POSSIBLE);
        Edge.of("Promise 11", "Returns the number of swaps then;");
        for (int swaps = 0; swaps < 6; swaps++) {
            Run run = SIX.times(6 - swaps, r -> r.answer(0, 0));
            Edge.is("behind " + swaps, run.ask(r -> r.propose(2, 0)), swaps + 1);
        }
    }

    private static void proposeErrors() {
        Edge.of("Promise 11", "NO_SUCH if there is no such task;");
        Edge.refused("not planned", Run.weights(1, 1).efforts(5, 4), r -> r.propose(0, 1), CleaningRota.NO_SUCH);
        Edge.refused("neither of them", FOUR, r -> r.propose(4, 4), CleaningRota.NO_SUCH);
        Edge.refused("the first one is done, the second one is none", FOUR.doTasks(0), r -> r.propose(0, 4), CleaningRota.NO_SUCH);
        Edge.refused("none with six swaps", SIX, r -> r.propose(4, 0), CleaningRota.NO_SUCH);
        Edge.refused("none with six swaps, the other one", SIX, r -> r.propose(0, -1), CleaningRota.NO_SUCH);
        Edge.of("Promise 11", "NOT_POSSIBLE if one of them is done, both have the same resident (also if they are the same task), or "
            + "the same swap is proposed already (the same first and the same second task);");
        Edge.refused("the first one is done", BUSY, r -> r.propose(2, 1), CleaningRota.NOT_POSSIBLE);
        Edge.refused("the second one is done", BUSY, r -> r.propose(1, 2), CleaningRota.NOT_POSSIBLE);
        Edge.refused("both are done, of different residents", FOUR.doTasks(0, 1), r -> r.propose(1, 0), CleaningRota.NOT_POSSIBLE);
        Edge.refused("the same resident", BUSY, r -> r.propose(0, 4), CleaningRota.NOT_POSSIBLE);
        Edge.refused("the same task", BUSY, r -> r.propose(0, 0), CleaningRota.NOT_POSSIBLE);
        Edge.refused("the same task, done", BUSY, r -> r.propose(2, 2), CleaningRota.NOT_POSSIBLE);
        Edge.refused("the same swap", BUSY, r -> r.propose(3, 1), CleaningRota.NOT_POSSIBLE);
        Edge.is("the opposite swap is another one", BUSY.ask(r -> r.propose(1, 3)), 2);
        Edge.is("the same first task, another second one", FOUR.then(r -> r.propose(0, 1)).ask(r -> r.propose(0, 2)), 2);
        Edge.is("another first task, the same second one", FOUR.then(r -> r.propose(0, 1)).ask(r -> r.propose(3, 1)), 2);
        Edge.is("the same swap, declined", BUSY.then(r -> r.answer(0, 0)).ask(r -> r.propose(3, 1)), 1);
        Edge.refused("the last one of six again", SIX, r -> r.propose(1, 3), CleaningRota.NOT_POSSIBLE);
        Edge.refused("the first one of six again", SIX, r -> r.propose(0, 1), CleaningRota.NOT_POSSIBLE);
        Edge.refused("the same resident with six swaps", SIX, r -> r.propose(3, 2), CleaningRota.NOT_POSSIBLE);
        Edge.of("Promise 11", "TOO_MANY if there are 6 swaps.");
        Edge.is("there are five", SIX.then(CleaningRota::undo).ask(r -> r.propose(2, 1)), 6);
        Edge.refused("there are six", SIX, r -> r.propose(2, 1), CleaningRota.TOO_MANY);
        Edge.refused("there are six of twelve tasks", FULL, r -> r.propose(10, 11), CleaningRota.TOO_MANY);
    }

    private static void answer() {
        Edge.of("Promise 12", "int answer(int swap, int yes): Accepts a swap, or declines it; it is dropped then.");
        Edge.is("accepted", BUSY.then(r -> r.answer(0, 1)).ask(r -> r.swap(0, 0)), CleaningRota.NO_SUCH);
        Edge.is("declined", BUSY.then(r -> r.answer(0, 0)).ask(r -> r.swap(0, 0)), CleaningRota.NO_SUCH);
        residentsAre("accepted", BUSY.then(r -> r.answer(0, 1)), 1, 1, 1, 0, 1);
        residentsAre("declined", BUSY.then(r -> r.answer(0, 0)), 1, 0, 1, 1, 1);
        Edge.of("Promise 12", "yes: 1 or 0");
        Edge.range("yes", BUSY, yes -> r -> r.answer(0, yes), 0, 1, CleaningRota.BAD_VALUE);
        Edge.of("Promise 12", "Returns the number of swaps that are left behind all that is dropped;");
        Edge.is("one, declined", BUSY.ask(r -> r.answer(0, 0)), 0);
        Edge.is("one, accepted", BUSY.ask(r -> r.answer(0, 1)), 0);
        Edge.is("six, the first one declined", SIX.ask(r -> r.answer(0, 0)), 5);
        Edge.is("six, the last one declined", SIX.ask(r -> r.answer(5, 0)), 5);
        Edge.is("six, all others have one of its tasks", SIX.ask(r -> r.answer(3, 1)), 0);
        Edge.is("six, one other has none of its tasks", SIX.ask(r -> r.answer(5, 1)), 1);
        Run apart = FULL.times(6, r -> r.answer(0, 0)).then(r -> r.propose(0, 1), r -> r.propose(2, 3), r -> r.propose(4, 5));
        Edge.is("three without a common task", apart.ask(r -> r.answer(1, 1)), 2);
        swapIs("the first of them stays", apart.then(r -> r.answer(1, 1)), 0, 0, 1);
        swapIs("the last of them moves up", apart.then(r -> r.answer(1, 1)), 1, 4, 5);
    }

    private static void answerErrors() {
        Edge.of("Promise 12", "NO_SUCH if there is no such swap;");
        Edge.range("of one", BUSY, swap -> r -> r.answer(swap, 1), 0, 0, CleaningRota.NO_SUCH);
        Edge.range("of six, accepted", SIX, swap -> r -> r.answer(swap, 1), 0, 5, CleaningRota.NO_SUCH);
        Edge.range("of six, declined", SIX, swap -> r -> r.answer(swap, 0), 0, 5, CleaningRota.NO_SUCH);
        Edge.refused("of none", FOUR, r -> r.answer(0, 1), CleaningRota.NO_SUCH);
        Edge.refused("decided already", BUSY.then(r -> r.answer(0, 0)), r -> r.answer(0, 1), CleaningRota.NO_SUCH);
        Edge.refused("dropped, as a task of it is done", BUSY.doTasks(1), r -> r.answer(0, 1), CleaningRota.NO_SUCH);
        Edge.refused("no such swap, and no answer", BUSY, r -> r.answer(1, -1), CleaningRota.NO_SUCH);
        Edge.of("Promise 12", "BAD_VALUE if yes is neither 0 nor 1.");
        Edge.refusedOutside("the last one of six", SIX, yes -> r -> r.answer(5, yes), 0, 1, CleaningRota.BAD_VALUE);
    }
}
