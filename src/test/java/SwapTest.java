/** Promises 11 and 12: swaps that are proposed and answered. */
final class SwapTest {
    private SwapTest() {
    }

    static void run() {
        promise11Propose();
        promise11Errors();
        promise11TooMany();
        promise12Decline();
        promise12Accept();
        promise12Drops();
        promise12Errors();
        doneDropsSwaps();
        awayDoesNotMatter();
    }

    /** Efforts 9, 8, 7, 6 for the residents 0, 1, 2 and 2: loads 9, 8 and 13. */
    private static CleaningRota fourTasks() {
        CleaningRota rota = Houses.withEfforts(Houses.ofWeights(1, 1, 2), 9, 8, 7, 6);
        rota.plan();
        Houses.residentsOfTasks("four tasks", rota, 0, 1, 2, 2);
        return rota;
    }

    private static void swapIs(String what, CleaningRota rota, int swap, int... due) {
        for (int i = 0; i < due.length; i++) {
            Check.is(what + ": swap(" + swap + ", " + i + ")", rota.swap(swap, i), due[i]);
        }
    }

    private static void promise11Propose() {
        CleaningRota rota = fourTasks();
        Check.is("the first swap", rota.propose(0, 2), 1);
        Check.is("the same one the other way round", rota.propose(2, 0), 2);
        Check.is("another second task", rota.propose(0, 3), 3);
        Check.is("another first task", rota.propose(1, 2), 4);
        Check.is("swaps", rota.count(7), 4);
        swapIs("in their order", rota, 0, 0, 2, 0, 2);
        swapIs("in their order", rota, 1, 2, 0, 2, 0);
        swapIs("in their order", rota, 2, 0, 3, 0, 2);
        swapIs("in their order", rota, 3, 1, 2, 1, 2);
        Houses.residentsOfTasks("proposing changes nothing else", rota, 0, 1, 2, 2);
    }

    private static void promise11Errors() {
        CleaningRota rota = fourTasks();
        int states = rota.count(12);
        for (int task : new int[] {-1, 4, Integer.MIN_VALUE, Integer.MAX_VALUE}) {
            Check.is("propose(" + task + ", 0)", rota.propose(task, 0), Houses.NO_SUCH);
            Check.is("propose(0, " + task + ")", rota.propose(0, task), Houses.NO_SUCH);
            Check.is("propose(" + task + ", itself)", rota.propose(task, task), Houses.NO_SUCH);
        }
        Check.is("the same task", rota.propose(1, 1), Houses.NOT_POSSIBLE);
        Check.is("the same resident", rota.propose(2, 3), Houses.NOT_POSSIBLE);
        Check.is("nothing is recorded", rota.count(12), states);
        rota.propose(0, 1);
        Check.is("proposed already", rota.propose(0, 1), Houses.NOT_POSSIBLE);
        Check.is("one swap", rota.count(7), 1);
        rota.done(3);
        Check.is("the first one is done", rota.propose(3, 0), Houses.NOT_POSSIBLE);
        Check.is("the second one is done", rota.propose(0, 3), Houses.NOT_POSSIBLE);
        Check.is("no task comes ahead of a done one", rota.propose(3, 4), Houses.NO_SUCH);
        Check.is("no tasks in a new house", new CleaningRota().propose(0, 0), Houses.NO_SUCH);
    }

    private static void promise11TooMany() {
        CleaningRota rota = fourTasks();
        int[][] swaps = {{0, 1}, {0, 2}, {0, 3}, {1, 0}, {1, 2}, {1, 3}};
        for (int i = 0; i < swaps.length; i++) {
            Check.is("swap " + i, rota.propose(swaps[i][0], swaps[i][1]), i + 1);
        }
        int states = rota.count(12);
        Check.is("a seventh one", rota.propose(2, 0), Houses.TOO_MANY);
        Check.is("proposed already comes ahead of too many", rota.propose(1, 3), Houses.NOT_POSSIBLE);
        Check.is("the same resident comes ahead of too many", rota.propose(2, 3), Houses.NOT_POSSIBLE);
        Check.is("no task comes ahead of too many", rota.propose(2, 4), Houses.NO_SUCH);
        Check.is("six swaps", rota.count(7), 6);
        Check.is("nothing is recorded", rota.count(12), states);
        rota.answer(5, 0);
        Check.is("there is room again", rota.propose(2, 0), 6);
    }

    private static void promise12Decline() {
        CleaningRota rota = fourTasks();
        rota.propose(0, 1);
        rota.propose(0, 2);
        rota.propose(0, 3);
        Check.is("declined", rota.answer(1, 0), 2);
        Houses.residentsOfTasks("declining changes no task", rota, 0, 1, 2, 2);
        swapIs("those that are left", rota, 0, 0, 1);
        swapIs("those that are left", rota, 1, 0, 3);
        Check.is("no third one", rota.swap(2, 0), Houses.NO_SUCH);
        Check.is("declined, the last one", rota.answer(1, 0), 1);
        Check.is("declined, the first one", rota.answer(0, 0), 0);
        Check.is("it can be proposed again", rota.propose(0, 2), 1);
    }

    private static void promise12Accept() {
        CleaningRota rota = fourTasks();
        rota.propose(0, 3);
        Check.is("accepted", rota.answer(0, 1), 0);
        Houses.residentsOfTasks("both tasks change their residents", rota, 2, 1, 2, 0);
        Check.is("load of 0", rota.about(0, 4), 6);
        Check.is("load of 2", rota.about(2, 4), 16);
        Check.is("load of 1", rota.about(1, 4), 8);
        Check.is("first open task of 0", rota.about(0, 7), 3);
        Check.is("first open task of 2", rota.about(2, 7), 0);
        rota.done(0);
        Check.is("the work is that of the new resident", rota.about(2, 1), 9);
        rota.end();
        Check.is("the debt of 0", rota.about(0, 2), 6);
        Check.is("the debt of 2", rota.about(2, 2), 7);
        Check.is("nothing is left open for 0", rota.about(0, 4), 0);
        Check.is("nothing is left open for 2", rota.about(2, 4), 9);
    }

    private static void promise12Drops() {
        CleaningRota rota = fourTasks();
        rota.propose(0, 1);
        rota.propose(1, 2);
        rota.propose(0, 2);
        rota.propose(1, 3);
        rota.propose(3, 0);
        rota.propose(2, 1);
        Check.is("all swaps with 0 or 2 are dropped", rota.answer(2, 1), 1);
        swapIs("what is left", rota, 0, 1, 3, 1, 2);
        Houses.residentsOfTasks("0 and 2 are swapped", rota, 2, 1, 0, 2);
    }

    private static void promise12Errors() {
        CleaningRota rota = fourTasks();
        Check.is("no swaps", rota.answer(0, 1), Houses.NO_SUCH);
        rota.propose(0, 1);
        int states = rota.count(12);
        for (int swap : new int[] {-1, 1, Integer.MIN_VALUE, Integer.MAX_VALUE}) {
            Check.is("answer(" + swap + ", 1)", rota.answer(swap, 1), Houses.NO_SUCH);
            Check.is("answer(" + swap + ", 2)", rota.answer(swap, 2), Houses.NO_SUCH);
        }
        for (int yes : new int[] {-1, 2, Integer.MIN_VALUE, Integer.MAX_VALUE}) {
            Check.is("answer(0, " + yes + ")", rota.answer(0, yes), Houses.BAD_VALUE);
        }
        Check.is("the swap stays", rota.count(7), 1);
        Check.is("nothing is recorded", rota.count(12), states);
    }

    private static void doneDropsSwaps() {
        CleaningRota rota = fourTasks();
        rota.propose(0, 1);
        rota.propose(1, 2);
        rota.propose(2, 0);
        rota.propose(3, 1);
        rota.done(0);
        Check.is("swaps without task 0", rota.count(7), 2);
        swapIs("what is left", rota, 0, 1, 2);
        swapIs("what is left", rota, 1, 3, 1);
        rota.done(1);
        Check.is("none is left", rota.count(7), 0);
    }

    private static void awayDoesNotMatter() {
        CleaningRota rota = fourTasks();
        rota.away(0, 0, 0);
        Check.is("one who is away proposes", rota.propose(0, 1), 1);
        Check.is("one who is away gets a task", rota.answer(0, 1), 0);
        Houses.residentsOfTasks("swapped", rota, 1, 0, 2, 2);
    }
}
