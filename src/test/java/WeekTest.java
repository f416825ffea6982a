/** Promises 7 to 10: planning, doing, cleaning without a task, ending. */
final class WeekTest {
    private WeekTest() {
    }

    static void run() {
        promise7DueAreas();
        promise7Order();
        promise7DeepTasks();
        promise7DeepEfforts();
        promise7MostTasks();
        promise7LeastLoad();
        promise7Ties();
        promise7Away();
        promise7SecondDeepTask();
        promise7Errors();
        promise8Done();
        promise8DeepTasks();
        promise8DeepTasksAreApart();
        promise8Errors();
        promise9Extra();
        promise9Errors();
        promise10Skipped();
        promise10Points();
        promise10Dirt();
        promise10Errors();
        promise10LastWeek();
    }

    private static void promise7DueAreas() {
        CleaningRota rota = Houses.ofWeights(1);
        int[] periods = {1, 2, 3, 4, 2, 3};
        for (int i = 0; i < periods.length; i++) {
            rota.area(20 - i, periods[i], 0);
        }
        for (int week = 0; week < 13; week++) {
            int due = 0;
            for (int area = 0; area < periods.length; area++) {
                boolean isDue = week % periods[area] == area % periods[area];
                Check.is("area " + area + " in week " + week, rota.room(area, 5), isDue ? 1 : 0);
                due += isDue ? 1 : 0;
            }
            Check.is("tasks of week " + week, rota.plan(), due);
            for (int task = 0; task < due; task++) {
                Check.is("only areas that are due get tasks", rota.room(rota.task(task, 0), 5), 1);
                Check.is("no deep task", rota.task(task, 4), 0);
                Check.is("no task is done at first", rota.task(task, 3), 0);
            }
            rota.end();
        }
    }

    private static void promise7Order() {
        CleaningRota rota = Houses.withEfforts(Houses.ofWeights(1), 4, 9, 4, 20, 9, 1);
        Check.is("six tasks", rota.plan(), 6);
        Houses.areasOfTasks("descending efforts, ascending areas", rota, 3, 1, 4, 0, 2, 5);
        Houses.effortsOfTasks("descending efforts, ascending areas", rota, 20, 9, 9, 4, 4, 1);
    }

    private static void promise7DeepTasks() {
        CleaningRota rota = Houses.ofWeights(1);
        rota.area(5, 1, 125);
        rota.area(8, 1, 124);
        rota.area(8, 4, 200);
        rota.area(7, 1, 0);
        Houses.skipWeeks(rota, 2);
        Check.is("as dirty as it may not be", rota.room(0, 4), 1);
        Check.is("a little less dirty", rota.room(1, 4), 0);
        Check.is("area 2 is due in week 2", rota.room(2, 5), 1);
        Check.is("tasks", rota.plan(), 6);
        Houses.areasOfTasks("deep tasks in order", rota, 2, 2, 0, 0, 1, 3);
        Houses.effortsOfTasks("deep tasks in order", rota, 12, 12, 8, 8, 8, 7);
        int[] deep = {1, 1, 1, 1, 0, 0};
        for (int task = 0; task < deep.length; task++) {
            Check.is("deep: task " + task, rota.task(task, 4), deep[task]);
        }
        rota.end();
        Check.is("area 2 is not due in week 3", rota.room(2, 5), 0);
        Check.is("tasks of week 3", rota.plan(), 7);
        Houses.areasOfTasks("areas that are not due are cleaned deeply, too", rota, 1, 1, 2, 2, 0, 0, 3);
    }

    private static void promise7DeepEfforts() {
        int[][] efforts = {{2, 1, 1}, {2, 7, 7}, {2, 20, 20}, {3, 1, 2}, {3, 2, 3}, {3, 5, 8}, {3, 20, 30}, {4, 5, 10},
            {5, 1, 3}, {5, 3, 8}, {6, 1, 3}, {6, 20, 60}};
        for (int[] one : efforts) {
            CleaningRota rota = Houses.ofWeights(1);
            rota.area(one[1], 1, 1);
            rota.set(CleaningRota.DIRTY, 1);
            rota.set(CleaningRota.DEEP, one[0]);
            Check.is("a clean area", rota.plan(), 1);
            Check.is("its effort", rota.task(0, 2), one[1]);
            rota.end();
            Check.is("a dirty area", rota.plan(), 2);
            Check.is("the first half of " + one[0] + " * " + one[1], rota.task(0, 2), one[2]);
            Check.is("the second half of " + one[0] + " * " + one[1], rota.task(1, 2), one[2]);
        }
    }

    private static void promise7MostTasks() {
        CleaningRota rota = Houses.ofWeights(1, 1, 1);
        for (int i = 0; i < 6; i++) {
            rota.area(1 + i, 1, 200);
        }
        rota.set(CleaningRota.DIRTY, 200);
        Houses.skipWeeks(rota, 1);
        Check.is("all areas are dirty", rota.plan(), 12);
        Houses.areasOfTasks("twelve tasks", rota, 5, 5, 4, 4, 3, 3, 2, 2, 1, 1, 0, 0);
        Houses.effortsOfTasks("twelve tasks", rota, 9, 9, 8, 8, 6, 6, 5, 5, 3, 3, 2, 2);
        Check.is("open tasks", rota.count(4), 12);
        Check.is("all of them are given", rota.about(0, 6) + rota.about(1, 6) + rota.about(2, 6), 12);
        Check.is("no more tasks", rota.task(12, 0), Houses.NO_SUCH);
        Check.is("all of them are skipped", rota.end(), 12);
    }

    private static void promise7LeastLoad() {
        CleaningRota rota = Houses.withEfforts(Houses.ofWeights(1, 3), 10, 9, 8, 7, 6, 5);
        rota.plan();
        // Loads after each task: 10|0, 10|9, 10|17, 10|24, 10|30, 15|30 (equal before the last one: the lowest).
        Houses.residentsOfTasks("by load for the weight", rota, 0, 1, 1, 1, 1, 0);
        Check.is("load of 0", rota.about(0, 4), 15);
        Check.is("load of 1", rota.about(1, 4), 30);
        rota.done(1);
        rota.end();
        rota.plan();
        // Only work that was done counts: 0|9 over 1|3.
        Houses.residentsOfTasks("by the work done", rota, 0, 1, 1, 1, 0, 1);
    }

    private static void promise7Ties() {
        CleaningRota rota = Houses.withEfforts(Houses.ofWeights(2, 2, 2), 5);
        rota.plan();
        Houses.residentsOfTasks("the lowest one of equal ones", rota, 0);
        rota.away(0, 1, 1);
        rota.end();
        rota.plan();
        Houses.residentsOfTasks("0 is away", rota, 1);
        rota.end();
        rota.away(0, 2, 2);
        rota.set(CleaningRota.DECAY, 1);
        rota.area(3, 1, 0);
        rota.plan();
        Houses.residentsOfTasks("the greatest debt of equal loads", rota, 1, 2);
        rota.done(0);
        rota.end();
        // Debts 5|5|3, loads 0|5|0.
        rota.plan();
        Houses.residentsOfTasks("loads come ahead of debts", rota, 0, 2);
    }

    private static void promise7Away() {
        CleaningRota rota = Houses.withEfforts(Houses.ofWeights(1, 10), 3, 2);
        rota.away(1, 0, 0);
        Check.is("all for the one who is here", rota.plan(), 2);
        Houses.residentsOfTasks("all for the one who is here", rota, 0, 0);
        rota.end();
        rota.away(0, 1, 1);
        rota.away(1, 1, 1);
        Check.is("all are away", rota.plan(), 0);
        Check.is("no tasks", rota.count(3), 0);
        Check.is("planned all the same", rota.count(8), 1);
        Check.is("planned is planned", rota.plan(), Houses.NOT_POSSIBLE);
        Check.is("it can end", rota.end(), 0);
        CleaningRota empty = Houses.withEfforts(new CleaningRota(), 3);
        Check.is("nobody there", empty.plan(), 0);
        Check.is("planned with nobody", empty.count(8), 1);
        CleaningRota bare = Houses.ofWeights(1);
        Check.is("no areas", bare.plan(), 0);
        Check.is("planned without areas", bare.count(8), 1);
    }

    private static CleaningRota withOneDirtyArea(int... weights) {
        CleaningRota rota = Houses.ofWeights(weights);
        rota.area(10, 1, 200);
        rota.set(CleaningRota.DIRTY, 200);
        Houses.skipWeeks(rota, 1);
        return rota;
    }

    private static void promise7SecondDeepTask() {
        CleaningRota rota = withOneDirtyArea(10, 1);
        rota.plan();
        Houses.residentsOfTasks("two residents", rota, 0, 1);
        rota.done(1);
        rota.end();
        rota.plan();
        // Loads 0 over 10 and 15 over 1: after 15 for resident 0, 15 over 10 is still less.
        Houses.residentsOfTasks("the second one is for somebody else", rota, 0, 1);
        rota.end();
        rota.away(1, 0, 999);
        rota.plan();
        Houses.residentsOfTasks("nobody else is here", rota, 0, 0);
        CleaningRota alone = withOneDirtyArea(4);
        alone.plan();
        Houses.residentsOfTasks("alone", alone, 0, 0);
        CleaningRota two = Houses.ofWeights(10, 1);
        two.area(10, 1, 200);
        two.area(10, 1, 200);
        two.set(CleaningRota.DIRTY, 200);
        two.plan();
        two.away(0, 1, 1);
        two.end();
        two.plan();
        Houses.residentsOfTasks("all for the one who is here", two, 1, 1, 1, 1);
        for (int task = 0; task < 4; task++) {
            two.done(task);
        }
        two.end();
        two.plan();
        // Loads 0|60 over 10|1: 0 is barred from each second one alone.
        Houses.residentsOfTasks("only from the same area's second one", two, 0, 1, 0, 1);
    }

    private static void promise7Errors() {
        CleaningRota rota = Houses.withEfforts(Houses.ofWeights(1), 3);
        Check.is("plan", rota.plan(), 1);
        int states = rota.count(12);
        Check.is("planned already", rota.plan(), Houses.NOT_POSSIBLE);
        Check.is("tasks stay", rota.count(3), 1);
        Check.is("nothing is recorded", rota.count(12), states);
        rota.area(5, 1, 0);
        Check.is("new areas wait for the next week", rota.count(3), 1);
        rota.end();
        Check.is("the next week", rota.plan(), 2);
    }

    private static void promise8Done() {
        CleaningRota rota = Houses.ofWeights(2, 2);
        rota.area(6, 1, 30);
        rota.area(4, 1, 20);
        Houses.skipWeeks(rota, 1);
        rota.plan();
        Check.is("dirt before", rota.room(0, 3), 30);
        Check.is("the effort", rota.done(0), 6);
        Check.is("it is done", rota.task(0, 3), 1);
        Check.is("the other one is open", rota.task(1, 3), 0);
        int one = rota.task(0, 1);
        Check.is("work", rota.about(one, 1), 6);
        Check.is("load", rota.about(one, 4), 6);
        Check.is("work of the other one", rota.about(1 - one, 1), 0);
        Check.is("debt stays", rota.about(0, 2), 6);
        Check.is("dirt", rota.room(0, 3), 0);
        Check.is("cleaned", rota.room(0, 6), 1);
        Check.is("dirt of the other area", rota.room(1, 3), 20);
        Check.is("the other area was not cleaned", rota.room(1, 6), 0);
        Check.is("open tasks", rota.count(4), 1);
        Check.is("tasks", rota.count(3), 2);
        Check.is("all that were done", rota.count(5), 1);
        Check.is("all that were skipped", rota.count(6), 2);
        rota.extra(0, 1);
        rota.done(1);
        Check.is("cleaned once more although it was clean", rota.room(1, 6), 2);
    }

    private static void promise8DeepTasks() {
        for (int first = 0; first < 2; first++) {
            CleaningRota rota = withOneDirtyArea(1, 1);
            rota.plan();
            Check.is("deep effort", rota.done(first), 15);
            Check.is("half done: dirt", rota.room(0, 3), 200);
            Check.is("half done: not cleaned", rota.room(0, 6), 0);
            Check.is("half done: still too dirty", rota.room(0, 4), 1);
            Check.is("other half", rota.done(1 - first), 15);
            Check.is("both done: dirt", rota.room(0, 3), 0);
            Check.is("both done: cleaned once", rota.room(0, 6), 1);
        }
        CleaningRota rota = withOneDirtyArea(1, 1);
        rota.plan();
        rota.done(0);
        Check.is("the other half is skipped", rota.end(), 1);
        Check.is("dirt goes on", rota.room(0, 3), 400);
    }

    private static void promise8DeepTasksAreApart() {
        CleaningRota rota = Houses.ofWeights(1);
        for (int i = 0; i < 3; i++) {
            rota.area(10, 1, 200);
        }
        rota.set(CleaningRota.DIRTY, 200);
        Houses.skipWeeks(rota, 1);
        Check.is("six deep tasks", rota.plan(), 6);
        for (int task : new int[] {1, 2, 4}) {
            rota.done(task);
        }
        for (int area = 0; area < 3; area++) {
            Check.is("one half is not enough for area " + area, rota.room(area, 3), 200);
        }
        rota.done(3);
        Check.is("area 1 is clean", rota.room(1, 3), 0);
        rota.done(0);
        Check.is("area 0 is clean", rota.room(0, 3), 0);
        Check.is("area 2 is not", rota.room(2, 3), 200);
        rota.done(5);
        Check.is("area 2 is clean", rota.room(2, 3), 0);
        Check.is("each was cleaned once", rota.room(0, 6) + rota.room(1, 6) + rota.room(2, 6), 3);
    }

    private static void promise8Errors() {
        CleaningRota rota = Houses.withEfforts(Houses.ofWeights(1), 6, 5);
        Check.is("no tasks before planning", rota.done(0), Houses.NO_SUCH);
        rota.plan();
        for (int task : new int[] {-1, 2, 12, Integer.MIN_VALUE, Integer.MAX_VALUE}) {
            Check.is("done(" + task + ")", rota.done(task), Houses.NO_SUCH);
        }
        rota.done(1);
        int states = rota.count(12);
        Check.is("done already", rota.done(1), Houses.NOT_POSSIBLE);
        Check.is("work stays", rota.about(0, 1), 5);
        Check.is("the count stays", rota.count(5), 1);
        Check.is("nothing is recorded", rota.count(12), states);
        rota.end();
        Check.is("no tasks in the next week", rota.done(0), Houses.NO_SUCH);
    }

    private static void promise9Extra() {
        CleaningRota rota = Houses.ofWeights(1, 1);
        rota.area(7, 1, 50);
        rota.area(4, 2, 30);
        rota.area(6, 2, 0);
        Houses.skipWeeks(rota, 1);
        Check.is("debt of 0", rota.about(0, 2), 7);
        Check.is("debt of 1", rota.about(1, 2), 6);
        rota.plan();
        Check.is("dirt", rota.room(1, 3), 30);
        Check.is("debt left", rota.extra(0, 1), 3);
        Check.is("debt", rota.about(0, 2), 3);
        Check.is("work", rota.about(0, 1), 4);
        Check.is("open tasks count on top of it", rota.about(0, 4), 4 + rota.about(0, 6) * 7);
        Check.is("dirt is gone", rota.room(1, 3), 0);
        Check.is("cleaned", rota.room(1, 6), 1);
        Check.is("points stay", rota.about(0, 3), 15);
        Check.is("tasks stay", rota.count(4), 2);
        Check.is("extra is no task", rota.count(5), 0);
        Check.is("debt not below 0", rota.extra(0, 0), 0);
        Check.is("only what the debt decreased", rota.about(0, 1), 7);
        Check.is("tasks for the area stay", rota.task(0, 3), 0);
        Check.is("dirt of area 0", rota.room(0, 3), 0);
        Check.is("exactly the debt", rota.extra(1, 2), 0);
        Check.is("work then", rota.about(1, 1), 6);
    }

    private static void promise9Errors() {
        CleaningRota rota = Houses.withEfforts(Houses.ofWeights(1, 1), 5);
        Check.is("no debt", rota.extra(0, 0), Houses.NOT_POSSIBLE);
        Houses.skipWeeks(rota, 1);
        for (int number : new int[] {-1, 2, Integer.MIN_VALUE, Integer.MAX_VALUE}) {
            Check.is("extra(" + number + ", 0)", rota.extra(number, 0), Houses.NO_SUCH);
            Check.is("extra(0, " + number + ")", rota.extra(0, number), Houses.NO_SUCH);
            Check.is("no area comes ahead of no debt", rota.extra(1, number), Houses.NO_SUCH);
        }
        Check.is("extra(0, 1)", rota.extra(0, 1), Houses.NO_SUCH);
        Check.is("the other one has no debt", rota.extra(1, 0), Houses.NOT_POSSIBLE);
        rota.away(0, 1, 1);
        int states = rota.count(12);
        Check.is("away", rota.extra(0, 0), Houses.NOT_POSSIBLE);
        Check.is("errors record nothing", rota.count(12), states);
        Check.is("errors clean nothing", rota.room(0, 6), 0);
        rota.away(0, 2, 2);
        Check.is("here again", rota.extra(0, 0), 0);
        Check.is("no debt any more", rota.extra(0, 0), Houses.NOT_POSSIBLE);
    }

    private static void promise10Skipped() {
        CleaningRota rota = Houses.withEfforts(Houses.ofWeights(1, 1), 6, 5, 4);
        rota.plan();
        rota.propose(0, 1);
        rota.done(2);
        Check.is("skipped", rota.end(), 2);
        Check.is("debt of 0", rota.about(0, 2), 6);
        Check.is("debt of 1", rota.about(1, 2), 5);
        Check.is("work of 1", rota.about(1, 1), 4);
        Check.is("load of 0", rota.about(0, 4), 0);
        Check.is("load of 1", rota.about(1, 4), 4);
        Check.is("no open tasks", rota.about(0, 6), 0);
        Check.is("the next week", rota.count(0), 1);
        Check.is("tasks", rota.count(3), 0);
        Check.is("open tasks", rota.count(4), 0);
        Check.is("swaps", rota.count(7), 0);
        Check.is("not planned", rota.count(8), 0);
        Check.is("skipped in all", rota.count(6), 2);
        Check.is("done in all", rota.count(5), 1);
        Houses.skipWeeks(rota, 1);
        Check.is("skipped in all, then", rota.count(6), 5);
        Check.is("debts add up", rota.about(0, 2) + rota.about(1, 2), 6 + 5 + 15);
    }

    private static void promise10Points() {
        CleaningRota rota = Houses.withEfforts(Houses.ofWeights(1), 6, 5, 4);
        rota.set(CleaningRota.PENALTY, 11);
        rota.set(CleaningRota.DECAY, 30);
        rota.plan();
        rota.end();
        Check.is("33 * 70 / 100", rota.about(0, 3), 23);
        rota.plan();
        rota.done(0);
        rota.end();
        Check.is("(23 + 22) * 70 / 100", rota.about(0, 3), 31);
        Houses.doWeek(rota);
        Check.is("31 * 70 / 100", rota.about(0, 3), 21);
        rota.set(CleaningRota.DECAY, 0);
        Houses.doWeek(rota);
        Check.is("no decay", rota.about(0, 3), 21);
        rota.set(CleaningRota.PENALTY, 0);
        Houses.skipWeeks(rota, 1);
        Check.is("no penalty", rota.about(0, 3), 21);
        rota.set(CleaningRota.PENALTY, 100);
        rota.set(CleaningRota.DECAY, 100);
        Houses.skipWeeks(rota, 1);
        Check.is("all points go, the new ones too", rota.about(0, 3), 0);
        rota.set(CleaningRota.DECAY, 1);
        Houses.skipWeeks(rota, 1);
        Check.is("300 * 99 / 100", rota.about(0, 3), 297);
    }

    private static void promise10Dirt() {
        CleaningRota rota = new CleaningRota();
        rota.area(1, 1, 200);
        rota.area(1, 1, 199);
        rota.area(1, 1, 0);
        for (int week = 1; week <= 7; week++) {
            Houses.skipWeeks(rota, 1);
            Check.is("dirt of 0 in week " + week, rota.room(0, 3), Math.min(1000, 200 * week));
            Check.is("dirt of 1 in week " + week, rota.room(1, 3), Math.min(1000, 199 * week));
            Check.is("dirt of 2 in week " + week, rota.room(2, 3), 0);
        }
    }

    private static void promise10Errors() {
        CleaningRota rota = Houses.withEfforts(Houses.ofWeights(1), 6);
        int states = rota.count(12);
        Check.is("not planned", rota.end(), Houses.NOT_POSSIBLE);
        Check.is("the week stays", rota.count(0), 0);
        Check.is("nothing is recorded", rota.count(12), states);
        rota.plan();
        rota.done(0);
        Check.is("nothing skipped", rota.end(), 0);
        Check.is("not planned yet", rota.end(), Houses.NOT_POSSIBLE);
    }

    /** No object gets there in the 512 calls that are promised; the words hold all the same. */
    private static void promise10LastWeek() {
        CleaningRota rota = Houses.withEfforts(Houses.ofWeights(1), 1);
        Houses.skipWeeks(rota, 997);
        Check.is("two weeks ahead of the last one", rota.count(0), 997);
        Check.is("the forecast ends in the last week", rota.forecast(60, 1), 2);
        Houses.skipWeeks(rota, 2);
        Check.is("the last week is planned", rota.plan(), 1);
        Check.is("the last week does not end", rota.end(), Houses.NOT_POSSIBLE);
        Check.is("it is still there", rota.count(0), 999);
        Check.is("its task is still there", rota.done(0), 1);
        Check.is("no forecast goes beyond it", rota.forecast(60, 1), 0);
    }
}
