/** Promises 18 and 19: forecasts, and the swap that is fairer. */
final class ForecastTest {
    private ForecastTest() {
    }

    static void run() {
        promise18Empty();
        promise18UnplannedWeek();
        promise18PlannedWeek();
        promise18SameAsDoing();
        promise18ChangesNothing();
        promise18Away();
        promise18Errors();
        promise19Fairer();
        promise19SeveralSwaps();
        promise19OpenTasksAlone();
        promise19None();
        promise19Errors();
    }

    private static void forecastIs(String what, CleaningRota rota, int weeks, int... due) {
        for (int i = 0; i < due.length; i++) {
            Check.is(what + ": forecast(" + weeks + ", " + i + ")", rota.forecast(weeks, i), due[i]);
        }
    }

    private static void promise18Empty() {
        CleaningRota rota = new CleaningRota();
        forecastIs("an empty house", rota, 0, 0, 0, 0, 0);
        forecastIs("an empty house", rota, 60, 0, 0, 0, 0);
        rota.area(5, 1, 10);
        forecastIs("nobody cleans", rota, 0, 0, 0, 0, 0);
        forecastIs("nobody cleans", rota, 1, 0, 0, 0, 10);
        forecastIs("nobody cleans", rota, 60, 0, 0, 0, 600);
        rota.area(5, 1, 200);
        forecastIs("dirt has an end", rota, 60, 0, 0, 0, 1000);
    }

    private static void promise18UnplannedWeek() {
        CleaningRota rota = Houses.ofWeights(1, 2);
        rota.area(6, 1, 50);
        rota.area(4, 2, 130);
        // Week 0: 6 for 0; week 1: 6 and 4 for 1; week 2: 6 for 1 (6 over 1 is more than 10 over 2).
        forecastIs("a new house", rota, 0, 0, 0, 0, 0);
        forecastIs("a new house", rota, 1, 6000, 1, 0, 130);
        forecastIs("a new house", rota, 2, 1000, 3, 0, 130);
        // Week 2 leaves 260 in area 1, which is 250 at least: two deep tasks of 6 in week 3, behind that of area 0.
        forecastIs("a new house", rota, 3, 2000, 4, 0, 260);
        // 6 for 0 (12), the first deep one for 1 (22), the second one must not be for 1, too (18).
        forecastIs("a new house", rota, 4, 7000, 7, 2, 130);
    }

    private static void promise18PlannedWeek() {
        CleaningRota rota = Houses.ofWeights(1);
        rota.area(6, 1, 100);
        rota.area(4, 1, 50);
        rota.set(CleaningRota.DIRTY, 100);
        Houses.skipWeeks(rota, 1);
        rota.plan();
        Houses.effortsOfTasks("a deep one and a plain one", rota, 9, 9, 4);
        rota.done(0);
        forecastIs("no weeks: the present state", rota, 0, 0, 0, 0, 100);
        forecastIs("what is open in the present week", rota, 1, 0, 2, 1, 100);
        // In each week from then on area 0 is dirty again: two deep tasks and a plain one.
        forecastIs("two weeks", rota, 2, 0, 5, 3, 100);
        forecastIs("sixty weeks", rota, 60, 0, 2 + 59 * 3, 1 + 59 * 2, 100);
        Check.is("the settings act", rota.set(CleaningRota.DIRTY, 101), 100);
        forecastIs("not dirty enough", rota, 60, 0, 2 + 59 * 2, 1, 100);
    }

    private static void promise18SameAsDoing() {
        CleaningRota rota = Houses.ofWeights(1, 3, 8, 2);
        rota.area(6, 1, 50);
        rota.area(14, 2, 130);
        rota.area(9, 4, 77);
        rota.area(3, 3, 200);
        rota.away(2, 3, 7);
        int[] spreads = new int[16];
        int[] dirt = new int[16];
        for (int weeks = 0; weeks < spreads.length; weeks++) {
            spreads[weeks] = rota.forecast(weeks, 0);
            dirt[weeks] = rota.forecast(weeks, 3);
        }
        int tasks = rota.forecast(15, 1);
        for (int weeks = 0; weeks < spreads.length; weeks++) {
            Check.is("spread after " + weeks, rota.count(9), spreads[weeks]);
            int greatest = 0;
            for (int area = 0; area < 4; area++) {
                greatest = Math.max(greatest, rota.room(area, 3));
            }
            Check.is("greatest dirt after " + weeks, greatest, dirt[weeks]);
            if (weeks == 15) {
                Check.is("tasks in all", rota.count(5), tasks);
            }
            Houses.doWeek(rota);
        }
    }

    private static void promise18ChangesNothing() {
        CleaningRota rota = Houses.withEfforts(Houses.ofWeights(1, 1), 5, 4);
        rota.plan();
        rota.propose(0, 1);
        int states = rota.count(12);
        rota.forecast(60, 0);
        Check.is("the week", rota.count(0), 0);
        Check.is("the tasks", rota.count(4), 2);
        Check.is("the swaps", rota.count(7), 1);
        Check.is("the states", rota.count(12), states);
        Check.is("the work", rota.about(0, 1), 0);
        Check.is("all that were done", rota.count(5), 0);
    }

    private static void promise18Away() {
        CleaningRota rota = Houses.ofWeights(1, 1);
        rota.area(10, 1, 5);
        rota.away(0, 1, 2);
        // 0, then 1 twice while 0 is away, then 0 again.
        forecastIs("one is away", rota, 1, 10000, 1, 0, 5);
        forecastIs("one is away", rota, 2, 0, 2, 0, 5);
        forecastIs("one is away", rota, 3, 10000, 3, 0, 5);
        forecastIs("one is away", rota, 4, 0, 4, 0, 5);
        rota.away(1, 2, 3);
        forecastIs("both are away in week 2", rota, 3, 0, 2, 0, 10);
        rota.plan();
        rota.away(0, 0, 999);
        forecastIs("a task that was given stays", rota, 1, 10000, 1, 0, 5);
    }

    private static void promise18Errors() {
        CleaningRota rota = Houses.withEfforts(Houses.ofWeights(1), 5);
        for (int wrong : new int[] {-1, 61, Integer.MIN_VALUE, Integer.MAX_VALUE}) {
            Check.is("forecast(" + wrong + ", 0)", rota.forecast(wrong, 0), Houses.BAD_VALUE);
        }
        for (int wrong : new int[] {-1, 4, Integer.MIN_VALUE, Integer.MAX_VALUE}) {
            Check.is("forecast(1, " + wrong + ")", rota.forecast(1, wrong), Houses.BAD_VALUE);
        }
        Check.is("the longest one", rota.forecast(60, 1), 60);
    }

    private static void fairerIs(String what, CleaningRota rota, int first, int second, int spread) {
        Check.is(what + ": first task", rota.fairer(0), first);
        Check.is(what + ": second task", rota.fairer(1), second);
        Check.is(what + ": planned spread", rota.fairer(2), spread);
    }

    private static void promise19Fairer() {
        // Loads 9 and 8 + 6 (over 2): the least spread comes with 8 and 9 + 6.
        CleaningRota rota = Houses.withEfforts(Houses.ofWeights(1, 2), 9, 8, 6);
        rota.plan();
        Houses.residentsOfTasks("before", rota, 0, 1, 1);
        Check.is("planned spread", rota.count(10), 2000);
        fairerIs("the best of two", rota, 0, 1, 500);
        rota.propose(0, 1);
        rota.answer(0, 1);
        Check.is("it is so", rota.count(10), 500);
        fairerIs("none is better", rota, Houses.NONE, Houses.NONE, Houses.NONE);
    }

    private static void promise19SeveralSwaps() {
        CleaningRota rota = Houses.withEfforts(Houses.ofWeights(1, 2), 8, 8, 4, 4);
        rota.plan();
        Houses.residentsOfTasks("before", rota, 0, 1, 1, 1);
        rota.weigh(1, 1);
        // Loads 8 and 16: a swap with 8 changes nothing, one with 4 makes it worse.
        fairerIs("no swap helps", rota, Houses.NONE, Houses.NONE, Houses.NONE);
        rota.weigh(1, 10);
        // 8000 and 1600; with 0 and 2 (or 0 and 3) 4000 and 2000.
        fairerIs("the lower second task", rota, 0, 2, 2000);
        CleaningRota other = Houses.withEfforts(Houses.ofWeights(1, 1), 7, 7, 5, 5, 2);
        other.plan();
        Houses.residentsOfTasks("before", other, 0, 1, 0, 1, 0);
        other.done(4);
        other.weigh(1, 2);
        // 14 over 1 and 12 over 2; 0 with 3: 12 over 1, 14 over 2. Nothing else is better.
        fairerIs("the only one", other, 0, 3, 5000);
        other.resident(10);
        Check.is("a third one has nothing", other.count(10), 14000);
        fairerIs("still the only one", other, 0, 3, 12000);
        CleaningRota third = Houses.withEfforts(Houses.ofWeights(2, 1), 6, 6, 3, 3);
        third.plan();
        Houses.residentsOfTasks("before", third, 0, 1, 0, 0);
        third.weigh(0, 10);
        // 12 over 10 and 6 over 1; 1 with 2 or with 3: 15 over 10 and 3 over 1.
        fairerIs("the first task is not that of resident 0", third, 1, 2, 1500);
    }

    private static void promise19OpenTasksAlone() {
        CleaningRota rota = Houses.withEfforts(Houses.ofWeights(1, 2), 9, 7, 7);
        rota.plan();
        fairerIs("the lower one of two", rota, 0, 1, 1000);
        rota.done(1);
        fairerIs("a task that is done stays", rota, 0, 2, 1000);
        rota.done(0);
        fairerIs("no swap is left", rota, Houses.NONE, Houses.NONE, Houses.NONE);
    }

    private static void promise19None() {
        CleaningRota rota = Houses.ofWeights(1, 1);
        fairerIs("not planned", rota, Houses.NONE, Houses.NONE, Houses.NONE);
        Houses.withEfforts(rota, 5, 5);
        rota.plan();
        fairerIs("fair already", rota, Houses.NONE, Houses.NONE, Houses.NONE);
    }

    private static void promise19Errors() {
        CleaningRota rota = Houses.withEfforts(Houses.ofWeights(1, 2), 9, 8, 6);
        for (int round = 0; round < 2; round++) {
            for (int what : new int[] {-1, 3, Integer.MIN_VALUE, Integer.MAX_VALUE}) {
                Check.is("fairer(" + what + ")", rota.fairer(what), Houses.BAD_VALUE);
            }
            rota.plan();
        }
    }
}
