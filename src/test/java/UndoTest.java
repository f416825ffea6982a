/** Promise 24: undo. */
final class UndoTest {
    private UndoTest() {
    }

    static void run() {
        eachChangeIsRecorded();
        changesAreTakenBack();
        weeksAreTakenBack();
        swapsAreTakenBack();
        loadIsTakenBackWithoutThePad();
        sixStatesAtMost();
        recordingGoesOnAfterUndo();
        errors();
    }

    private static void undoIs(String what, CleaningRota rota, int due) {
        Check.is("undo " + what, rota.undo(), due);
        Check.is("states after undo " + what, rota.count(12), Math.max(0, due));
    }

    private static void eachChangeIsRecorded() {
        CleaningRota rota = new CleaningRota();
        Check.is("nothing at first", rota.count(12), 0);
        rota.resident(1);
        Check.is("resident", rota.count(12), 1);
        rota.weigh(0, 1);
        Check.is("weigh, although nothing is other than before", rota.count(12), 2);
        rota.away(0, 5, 5);
        Check.is("away", rota.count(12), 3);
        rota.area(5, 1, 0);
        Check.is("area", rota.count(12), 4);
        rota.set(CleaningRota.DEEP, 3);
        Check.is("set, although nothing is other than before", rota.count(12), 5);
        rota.plan();
        Check.is("plan", rota.count(12), 6);
        takeAllBack(rota);
        rota = Houses.withEfforts(Houses.ofWeights(1), 5);
        rota.plan();
        rota.end();
        Check.is("end", rota.count(12), 4);
        rota.extra(0, 0);
        Check.is("extra", rota.count(12), 5);
        rota = Houses.withEfforts(Houses.ofWeights(1), 5);
        rota.plan();
        rota.done(0);
        Check.is("done", rota.count(12), 4);
        Houses.put(rota, "0");
        Check.is("put does not count", rota.count(12), 4);
        rota.load();
        Check.is("load, although nothing became done", rota.count(12), 5);
        Houses.put(rota, "0");
        rota.wipe();
        rota.fault();
        rota.fairer(0);
        rota.forecast(1, 0);
        Check.is("wipe, fault, fairer and forecast do not count", rota.count(12), 5);
        rota = Houses.withEfforts(Houses.ofWeights(1, 1), 5, 4);
        rota.plan();
        Check.is("five states", rota.count(12), 5);
        rota.propose(0, 1);
        Check.is("propose", rota.count(12), 6);
    }

    private static void takeBack(CleaningRota rota, int times) {
        for (int i = 0; i < times; i++) {
            rota.undo();
        }
    }

    private static void takeAllBack(CleaningRota rota) {
        undoIs("plan", rota, 5);
        Check.is("not planned", rota.count(8), 0);
        undoIs("set", rota, 4);
        undoIs("area", rota, 3);
        Check.is("no area", rota.count(2), 0);
        undoIs("away", rota, 2);
        undoIs("weigh", rota, 1);
        Check.is("still a resident", rota.count(1), 1);
        undoIs("resident", rota, 0);
        Check.is("no resident", rota.count(1), 0);
        undoIs("of nothing", rota, Houses.NOT_POSSIBLE);
    }

    private static void changesAreTakenBack() {
        CleaningRota rota = new CleaningRota();
        rota.resident(4);
        rota.away(0, 0, 3);
        rota.weigh(0, 9);
        rota.away(0, 1, 1);
        rota.set(CleaningRota.PENALTY, 99);
        rota.set(CleaningRota.DIRTY, 7);
        undoIs("the second set", rota, 5);
        Check.is("DIRTY", rota.count(16), 250);
        Check.is("PENALTY stays", rota.count(13), 99);
        undoIs("the first set", rota, 4);
        Check.is("PENALTY", rota.count(13), 20);
        undoIs("away", rota, 3);
        Check.is("away as before", rota.about(0, 8), 1);
        Check.is("the weight stays", rota.about(0, 0), 9);
        undoIs("weigh", rota, 2);
        Check.is("the weight", rota.about(0, 0), 4);
        undoIs("away", rota, 1);
        Check.is("never away", rota.about(0, 8), 0);
    }

    private static void weeksAreTakenBack() {
        CleaningRota rota = Houses.ofWeights(1, 2);
        rota.area(6, 1, 70);
        rota.plan();
        rota.end();
        rota.plan();
        rota.done(0);
        rota.end();
        Check.is("work", rota.about(0, 1), 6);
        undoIs("end", rota, 5);
        Check.is("the week", rota.count(0), 1);
        Check.is("planned", rota.count(8), 1);
        Check.is("the task is done", rota.task(0, 3), 1);
        Check.is("dirt", rota.room(0, 3), 0);
        undoIs("done", rota, 4);
        Check.is("the task is open", rota.task(0, 3), 0);
        Check.is("dirt is back", rota.room(0, 3), 70);
        Check.is("not cleaned", rota.room(0, 6), 0);
        Check.is("no work", rota.about(0, 1), 0);
        Check.is("load", rota.about(0, 4), 6);
        Check.is("none done", rota.count(5), 0);
        undoIs("plan", rota, 3);
        Check.is("no tasks", rota.count(3), 0);
        Check.is("no load", rota.about(0, 4), 0);
        Check.is("debt", rota.about(0, 2), 6);
        rota.extra(0, 0);
        undoIs("extra", rota, 3);
        Check.is("debt is back", rota.about(0, 2), 6);
        Check.is("work is back", rota.about(0, 1), 0);
        Check.is("dirt is back after extra", rota.room(0, 3), 70);
        undoIs("the first end", rota, 2);
        Check.is("week 0", rota.count(0), 0);
        Check.is("no debt", rota.about(0, 2), 0);
        Check.is("no points", rota.about(0, 3), 0);
        Check.is("none skipped", rota.count(6), 0);
        Check.is("an open task", rota.count(4), 1);
    }

    private static void swapsAreTakenBack() {
        CleaningRota rota = Houses.withEfforts(Houses.ofWeights(1, 1), 5, 4);
        rota.plan();
        rota.propose(0, 1);
        rota.propose(1, 0);
        rota.answer(1, 1);
        Check.is("swapped", rota.task(0, 1), 1);
        undoIs("answer", rota, 5);
        Check.is("not swapped", rota.task(0, 1), 0);
        Check.is("the swaps are back", rota.count(7), 2);
        Check.is("load of 0", rota.about(0, 4), 5);
        Check.is("the first swap", rota.swap(0, 0), 0);
        Check.is("the second swap", rota.swap(1, 0), 1);
        rota.answer(0, 0);
        undoIs("decline", rota, 5);
        Check.is("the swaps are back again", rota.count(7), 2);
        undoIs("propose", rota, 4);
        Check.is("one swap", rota.count(7), 1);
    }

    private static void loadIsTakenBackWithoutThePad() {
        CleaningRota rota = Houses.withEfforts(Houses.ofWeights(1), 5, 4);
        rota.plan();
        Houses.put(rota, "0-1");
        rota.load();
        Houses.put(rota, "0,1,5");
        undoIs("load", rota, 4);
        Check.is("both tasks are open", rota.count(4), 2);
        Check.is("the pad stays as it is", rota.count(11), 5);
        Check.is("the pad has what was put", rota.load(), 2);
        undoIs("the second load", rota, 4);
        Check.is("the pad does not come back", rota.count(11), 0);
    }

    private static void sixStatesAtMost() {
        CleaningRota rota = Houses.ofWeights(1);
        for (int weight = 2; weight <= 10; weight++) {
            rota.weigh(0, weight);
        }
        for (int left = 5; left >= 0; left--) {
            undoIs("one of six", rota, left);
            Check.is("weight", rota.about(0, 0), left + 4);
        }
        undoIs("of a state that was dropped", rota, Houses.NOT_POSSIBLE);
        Check.is("the weight stays", rota.about(0, 0), 4);
    }

    private static void recordingGoesOnAfterUndo() {
        CleaningRota rota = Houses.ofWeights(1);
        for (int weight = 2; weight <= 10; weight++) {
            rota.weigh(0, weight);
        }
        takeBack(rota, 4);
        Check.is("weight", rota.about(0, 0), 6);
        for (int weight = 1; weight <= 5; weight++) {
            rota.weigh(0, weight);
        }
        int[] due = {4, 3, 2, 1, 6, 5};
        for (int i = 0; i < due.length; i++) {
            undoIs("the newer ones first", rota, 5 - i);
            Check.is("weight", rota.about(0, 0), due[i]);
        }
    }

    private static void errors() {
        CleaningRota rota = new CleaningRota();
        undoIs("in a new house", rota, Houses.NOT_POSSIBLE);
        Houses.put(rota, "1,2");
        undoIs("of put", rota, Houses.NOT_POSSIBLE);
        rota.resident(0);
        rota.weigh(0, 1);
        rota.area(0, 0, 0);
        rota.set(9, 9);
        rota.done(0);
        rota.extra(0, 0);
        rota.end();
        rota.propose(0, 1);
        rota.answer(0, 0);
        undoIs("of errors", rota, Houses.NOT_POSSIBLE);
        Check.is("the pad stays", rota.count(11), 3);
    }
}
