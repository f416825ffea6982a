/** Promises 13 to 17: the numbers about residents, areas, tasks, swaps and the house. */
final class NumbersTest {
    private NumbersTest() {
    }

    static void run() {
        CleaningRota rota = inWeekOne();
        promise13About(rota);
        promise14Room(rota);
        promise15Task(rota);
        promise16Swap(rota);
        promise17Count(rota);
        promise17Spreads();
        askingRecordsNothing(rota);
    }

    private static void are(String what, int[] got, int... due) {
        for (int i = 0; i < due.length; i++) {
            Check.is(what + " " + i, got[i], due[i]);
        }
    }

    /** Week 1: area 1 is dirty, resident 2 is away, one of five tasks is done, and there is a swap. */
    private static CleaningRota inWeekOne() {
        CleaningRota rota = Houses.ofWeights(3, 7, 2);
        rota.area(11, 1, 60);
        rota.area(9, 2, 200);
        rota.area(4, 1, 10);
        rota.area(2, 1, 0);
        rota.set(CleaningRota.DIRTY, 200);
        rota.plan();
        Houses.residentsOfTasks("week 0", rota, 0, 1, 2);
        rota.done(0);
        rota.end();
        rota.away(2, 1, 3);
        rota.plan();
        Houses.areasOfTasks("week 1", rota, 1, 1, 0, 2, 3);
        Houses.residentsOfTasks("week 1", rota, 1, 0, 1, 1, 1);
        rota.done(2);
        rota.propose(3, 1);
        return rota;
    }

    private static int[] about(CleaningRota rota, int resident) {
        int[] numbers = new int[9];
        for (int what = 0; what < numbers.length; what++) {
            numbers[what] = rota.about(resident, what);
        }
        return numbers;
    }

    private static void promise13About(CleaningRota rota) {
        are("about 0", about(rota, 0), 3, 11, 0, 0, 11 + 14, 3666, 1, 1, 0);
        are("about 1", about(rota, 1), 7, 11, 4, 15, 11 + 14 + 4 + 2, 1571, 3, 0, 0);
        are("about 2", about(rota, 2), 2, 0, 2, 15, 0, 0, 0, Houses.NONE, 1);
        for (int resident : new int[] {-1, 3, 8, Integer.MIN_VALUE, Integer.MAX_VALUE}) {
            Check.is("about(" + resident + ", 0)", rota.about(resident, 0), Houses.NO_SUCH);
            Check.is("about(" + resident + ", 9)", rota.about(resident, 9), Houses.NO_SUCH);
        }
        for (int what : new int[] {-1, 9, Integer.MIN_VALUE, Integer.MAX_VALUE}) {
            Check.is("about(0, " + what + ")", rota.about(0, what), Houses.BAD_VALUE);
        }
    }

    private static void promise14Room(CleaningRota rota) {
        int[][] due = {{11, 1, 60, 0, 0, 1, 2}, {9, 2, 200, 200, 1, 1, 0}, {4, 1, 10, 10, 0, 1, 0}, {2, 1, 0, 0, 0, 1, 0}};
        for (int area = 0; area < due.length; area++) {
            for (int what = 0; what < 7; what++) {
                Check.is("room(" + area + ", " + what + ")", rota.room(area, what), due[area][what]);
            }
        }
        for (int area : new int[] {-1, 4, 6, Integer.MIN_VALUE, Integer.MAX_VALUE}) {
            Check.is("room(" + area + ", 0)", rota.room(area, 0), Houses.NO_SUCH);
            Check.is("room(" + area + ", 7)", rota.room(area, 7), Houses.NO_SUCH);
        }
        for (int what : new int[] {-1, 7, Integer.MIN_VALUE, Integer.MAX_VALUE}) {
            Check.is("room(0, " + what + ")", rota.room(0, what), Houses.BAD_VALUE);
        }
        CleaningRota other = new CleaningRota();
        other.area(3, 2, 5);
        Check.is("due in week 0", other.room(0, 5), 1);
        Houses.skipWeeks(other, 1);
        Check.is("not due in week 1", other.room(0, 5), 0);
        other.set(CleaningRota.DIRTY, 5);
        Check.is("dirty enough", other.room(0, 4), 1);
        other.set(CleaningRota.DIRTY, 6);
        Check.is("not dirty enough", other.room(0, 4), 0);
    }

    private static void promise15Task(CleaningRota rota) {
        int[][] due = {{1, 1, 14, 0, 1}, {1, 0, 14, 0, 1}, {0, 1, 11, 1, 0}, {2, 1, 4, 0, 0}, {3, 1, 2, 0, 0}};
        for (int task = 0; task < due.length; task++) {
            for (int what = 0; what < 5; what++) {
                Check.is("task(" + task + ", " + what + ")", rota.task(task, what), due[task][what]);
            }
        }
        for (int task : new int[] {-1, 5, 12, Integer.MIN_VALUE, Integer.MAX_VALUE}) {
            Check.is("task(" + task + ", 0)", rota.task(task, 0), Houses.NO_SUCH);
            Check.is("task(" + task + ", 5)", rota.task(task, 5), Houses.NO_SUCH);
        }
        for (int what : new int[] {-1, 5, Integer.MIN_VALUE, Integer.MAX_VALUE}) {
            Check.is("task(0, " + what + ")", rota.task(0, what), Houses.BAD_VALUE);
        }
    }

    private static void promise16Swap(CleaningRota rota) {
        int[] due = {3, 1, 1, 0};
        for (int what = 0; what < due.length; what++) {
            Check.is("swap(0, " + what + ")", rota.swap(0, what), due[what]);
        }
        for (int swap : new int[] {-1, 1, 6, Integer.MIN_VALUE, Integer.MAX_VALUE}) {
            Check.is("swap(" + swap + ", 0)", rota.swap(swap, 0), Houses.NO_SUCH);
            Check.is("swap(" + swap + ", 4)", rota.swap(swap, 4), Houses.NO_SUCH);
        }
        for (int what : new int[] {-1, 4, Integer.MIN_VALUE, Integer.MAX_VALUE}) {
            Check.is("swap(0, " + what + ")", rota.swap(0, what), Houses.BAD_VALUE);
        }
    }

    private static void promise17Count(CleaningRota rota) {
        Houses.put(rota, "1,2-4");
        // Rates 3666, 1571 and 0; planned ones 8333, 4428 and 0.
        int[] due = {1, 3, 4, 5, 4, 2, 2, 1, 1, 3666, 8333, 5, 6, 20, 25, 3, 200};
        for (int what = 0; what < due.length; what++) {
            Check.is("count(" + what + ")", rota.count(what), due[what]);
        }
        for (int what : new int[] {-1, 17, Integer.MIN_VALUE, Integer.MAX_VALUE}) {
            Check.is("count(" + what + ")", rota.count(what), Houses.BAD_VALUE);
        }
        CleaningRota other = new CleaningRota();
        other.set(CleaningRota.PENALTY, 1);
        other.set(CleaningRota.DECAY, 2);
        other.set(CleaningRota.DEEP, 4);
        other.set(CleaningRota.DIRTY, 5);
        int[] settings = {1, 2, 4, 5};
        for (int i = 0; i < settings.length; i++) {
            Check.is("count(" + (13 + i) + ")", other.count(13 + i), settings[i]);
        }
        Check.is("four states", other.count(12), 4);
    }

    private static void promise17Spreads() {
        CleaningRota rota = Houses.withEfforts(Houses.ofWeights(7), 20, 5);
        rota.plan();
        Check.is("one resident has no spread", rota.count(10), 0);
        rota.done(0);
        Check.is("one resident has no spread of work", rota.count(9), 0);
        rota.resident(3);
        Check.is("20 over 7", rota.count(9), 2857);
        Check.is("25 over 7", rota.count(10), 3571);
        rota.done(1);
        rota.end();
        rota.plan();
        Houses.residentsOfTasks("the new one catches up", rota, 1, 0);
        rota.done(0);
        // 25 over 7 and 20 over 3: each is rounded down by itself.
        Check.is("the spread of two", rota.count(9), 6666 - 3571);
        Check.is("the planned spread of two", rota.count(10), 6666 - 4285);
        rota.weigh(1, 10);
        Check.is("with another weight", rota.count(9), 3571 - 2000);
        Check.is("planned with another weight", rota.count(10), 4285 - 2000);
    }

    private static void askingRecordsNothing(CleaningRota rota) {
        int states = rota.count(12);
        about(rota, 0);
        rota.room(0, 0);
        rota.task(0, 0);
        rota.swap(0, 0);
        rota.forecast(3, 0);
        rota.fairer(0);
        rota.fault();
        Check.is("asking records nothing", rota.count(12), states);
    }
}
