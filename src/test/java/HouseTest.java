/** Promises 1 to 6: a new house, its residents, areas and settings. */
final class HouseTest {
    private HouseTest() {
    }

    static void run() {
        promise1NewObject();
        promise2Resident();
        promise3Weigh();
        promise4Away();
        promise4AwayKeepsTasks();
        promise5Area();
        promise6Set();
        promise6SettingsAct();
    }

    private static void promise1NewObject() {
        CleaningRota rota = new CleaningRota();
        for (int what = 0; what <= 12; what++) {
            Check.is("new: count(" + what + ")", rota.count(what), 0);
        }
        int[] settings = {20, 25, 3, 250};
        for (int setting = 0; setting < settings.length; setting++) {
            Check.is("new: setting " + setting, rota.count(13 + setting), settings[setting]);
        }
        Check.is("new: no resident", rota.about(0, 0), Houses.NO_SUCH);
        Check.is("new: no area", rota.room(0, 0), Houses.NO_SUCH);
        Check.is("new: no task", rota.task(0, 0), Houses.NO_SUCH);
        Check.is("new: no swap", rota.swap(0, 0), Houses.NO_SUCH);
        Check.is("new: nothing to undo", rota.undo(), Houses.NOT_POSSIBLE);
        rota.resident(3);
        Check.is("a second house is one of its own", new CleaningRota().count(1), 0);
    }

    private static void promise2Resident() {
        CleaningRota rota = new CleaningRota();
        for (int weight : new int[] {0, 11, -1, Integer.MIN_VALUE, Integer.MAX_VALUE}) {
            Check.is("resident(" + weight + ")", rota.resident(weight), Houses.BAD_VALUE);
        }
        Check.is("errors add nobody", rota.count(1), 0);
        Check.is("errors record nothing", rota.count(12), 0);
        int[] weights = {1, 10, 2, 3, 4, 5, 6, 7};
        for (int i = 0; i < weights.length; i++) {
            Check.is("resident " + i, rota.resident(weights[i]), i);
            Check.is("residents", rota.count(1), i + 1);
        }
        for (int i = 0; i < weights.length; i++) {
            Check.is("weight of " + i, rota.about(i, 0), weights[i]);
            for (int what = 1; what <= 6; what++) {
                Check.is("a new resident's " + what, rota.about(i, what), 0);
            }
            Check.is("a new resident has no task", rota.about(i, 7), Houses.NONE);
            Check.is("a new resident is here", rota.about(i, 8), 0);
        }
        Check.is("a ninth resident", rota.resident(1), Houses.TOO_MANY);
        Check.is("a bad weight comes ahead of too many", rota.resident(0), Houses.BAD_VALUE);
        Check.is("residents stay", rota.count(1), 8);
        Check.is("a resident who comes when others have worked has nothing yet", freshAfterUndo(), 0);
    }

    /** The rows of a resident who was undone must not shine through. */
    private static int freshAfterUndo() {
        CleaningRota rota = Houses.withEfforts(new CleaningRota(), 5);
        rota.resident(1);
        rota.plan();
        rota.done(0);
        rota.end();
        rota.undo();
        rota.undo();
        rota.undo();
        rota.undo();
        Check.is("nobody is left", rota.count(1), 0);
        rota.resident(2);
        int sum = 0;
        for (int what = 1; what <= 6; what++) {
            sum += rota.about(0, what);
        }
        return sum;
    }

    private static void promise3Weigh() {
        CleaningRota rota = Houses.ofWeights(4, 7);
        Check.is("the previous weight", rota.weigh(0, 10), 4);
        Check.is("the previous weight then", rota.weigh(0, 1), 10);
        Check.is("the weight", rota.about(0, 0), 1);
        Check.is("the other one's weight stays", rota.about(1, 0), 7);
        for (int resident : new int[] {-1, 2, 8, Integer.MIN_VALUE, Integer.MAX_VALUE}) {
            Check.is("weigh(" + resident + ", 5)", rota.weigh(resident, 5), Houses.NO_SUCH);
            Check.is("weigh(" + resident + ", 0)", rota.weigh(resident, 0), Houses.NO_SUCH);
        }
        for (int weight : new int[] {0, 11, -1, Integer.MIN_VALUE, Integer.MAX_VALUE}) {
            Check.is("weigh(1, " + weight + ")", rota.weigh(1, weight), Houses.BAD_VALUE);
        }
        Check.is("errors change no weight", rota.about(1, 0), 7);
        Check.is("errors record nothing", rota.count(12), 4);
    }

    private static void promise4Away() {
        CleaningRota rota = Houses.ofWeights(1, 1);
        Check.is("away now", rota.away(0, 0, 0), 1);
        Check.is("away now, by about", rota.about(0, 8), 1);
        Check.is("the other one is here", rota.about(1, 8), 0);
        Check.is("away later, in place of what was told", rota.away(0, 1, 999), 0);
        Check.is("here now", rota.about(0, 8), 0);
        Check.is("away in the last week", rota.away(0, 999, 999), 0);
        Check.is("away from 1 to 2", rota.away(0, 1, 2), 0);
        int[] isAway = {0, 1, 1, 0};
        for (int week = 0; week < isAway.length; week++) {
            Check.is("away in week " + week, rota.about(0, 8), isAway[week]);
            Houses.skipWeeks(rota, 1);
        }
        Check.is("away in a week that is over", rota.away(0, 0, 3), 0);
        Check.is("away up to the present week", rota.away(0, 0, 4), 1);
        Check.is("away from the present week on", rota.away(0, 4, 5), 1);
        Check.is("away from the next week on", rota.away(0, 5, 5), 0);
        for (int resident : new int[] {-1, 2, Integer.MIN_VALUE, Integer.MAX_VALUE}) {
            Check.is("away(" + resident + ", 0, 0)", rota.away(resident, 0, 0), Houses.NO_SUCH);
            Check.is("away(" + resident + ", -1, 0)", rota.away(resident, -1, 0), Houses.NO_SUCH);
        }
        int[][] wrong = {{-1, 0}, {-1, -1}, {0, -1}, {5, 4}, {0, 1000}, {1000, 1000}, {999, 998}, {Integer.MIN_VALUE, 4},
            {4, Integer.MAX_VALUE}, {4, Integer.MIN_VALUE}, {Integer.MAX_VALUE, Integer.MAX_VALUE}};
        for (int[] weeks : wrong) {
            Check.is("away(0, " + weeks[0] + ", " + weeks[1] + ")", rota.away(0, weeks[0], weeks[1]), Houses.BAD_VALUE);
        }
        Check.is("errors change nothing", rota.about(0, 8), 0);
    }

    private static void promise4AwayKeepsTasks() {
        CleaningRota rota = Houses.withEfforts(Houses.ofWeights(1, 1), 6);
        rota.plan();
        Check.is("away after planning", rota.away(0, 0, 5), 1);
        Check.is("the task stays", rota.task(0, 1), 0);
        Check.is("it can be done", rota.done(0), 6);
        Check.is("the work", rota.about(0, 1), 6);
    }

    private static void promise5Area() {
        CleaningRota rota = new CleaningRota();
        int[][] wrong = {{0, 1, 0}, {21, 1, 0}, {-1, 1, 0}, {1, 0, 0}, {1, 5, 0}, {1, -1, 0}, {1, 1, -1}, {1, 1, 201},
            {Integer.MIN_VALUE, 1, 0}, {1, Integer.MAX_VALUE, 0}, {1, 1, Integer.MIN_VALUE}, {Integer.MAX_VALUE, 1, 0},
            {1, 1, Integer.MAX_VALUE}};
        for (int[] area : wrong) {
            Check.is("area(" + area[0] + ", " + area[1] + ", " + area[2] + ")",
                rota.area(area[0], area[1], area[2]), Houses.BAD_VALUE);
        }
        Check.is("errors add nothing", rota.count(2), 0);
        Check.is("errors record nothing", rota.count(12), 0);
        int[][] areas = {{1, 1, 0}, {20, 4, 200}, {7, 2, 13}, {9, 3, 1}, {2, 4, 199}, {19, 1, 100}};
        for (int i = 0; i < areas.length; i++) {
            Check.is("area " + i, rota.area(areas[i][0], areas[i][1], areas[i][2]), i);
            Check.is("areas", rota.count(2), i + 1);
        }
        for (int i = 0; i < areas.length; i++) {
            for (int what = 0; what < 3; what++) {
                Check.is("room(" + i + ", " + what + ")", rota.room(i, what), areas[i][what]);
            }
            Check.is("a new area is clean", rota.room(i, 3), 0);
            Check.is("a new area was not cleaned", rota.room(i, 6), 0);
        }
        Check.is("a seventh area", rota.area(1, 1, 0), Houses.TOO_MANY);
        Check.is("a bad value comes ahead of too many", rota.area(0, 1, 0), Houses.BAD_VALUE);
        Check.is("areas stay", rota.count(2), 6);
    }

    private static void promise6Set() {
        int[][] ranges = {{CleaningRota.PENALTY, 0, 100, 20}, {CleaningRota.DECAY, 0, 100, 25},
            {CleaningRota.DEEP, 2, 6, 3}, {CleaningRota.DIRTY, 1, 1000, 250}};
        for (int[] range : ranges) {
            CleaningRota rota = new CleaningRota();
            int setting = range[0];
            String name = "set(" + setting + ")";
            Check.is(name + " below", rota.set(setting, range[1] - 1), Houses.BAD_VALUE);
            Check.is(name + " above", rota.set(setting, range[2] + 1), Houses.BAD_VALUE);
            Check.is(name + " far below", rota.set(setting, Integer.MIN_VALUE), Houses.BAD_VALUE);
            Check.is(name + " far above", rota.set(setting, Integer.MAX_VALUE), Houses.BAD_VALUE);
            Check.is(name + " errors record nothing", rota.count(12), 0);
            Check.is(name + " least", rota.set(setting, range[1]), range[3]);
            Check.is(name + " greatest", rota.set(setting, range[2]), range[1]);
            Check.is(name + " now", rota.count(13 + setting), range[2]);
            for (int[] other : ranges) {
                if (other[0] != setting) {
                    Check.is(name + " leaves " + other[0], rota.count(13 + other[0]), other[3]);
                }
            }
        }
        CleaningRota rota = new CleaningRota();
        for (int setting : new int[] {-1, 4, Integer.MIN_VALUE, Integer.MAX_VALUE}) {
            Check.is("set(" + setting + ", 5)", rota.set(setting, 5), Houses.BAD_VALUE);
        }
    }

    private static void promise6SettingsAct() {
        CleaningRota rota = Houses.withEfforts(Houses.ofWeights(1), 5);
        rota.set(CleaningRota.PENALTY, 7);
        rota.set(CleaningRota.DECAY, 0);
        rota.plan();
        rota.end();
        Check.is("the penalty is as it was set", rota.about(0, 3), 7);
        rota.set(CleaningRota.DIRTY, 1);
        Check.is("a clean area needs no deep clean", rota.room(0, 4), 0);
    }
}
