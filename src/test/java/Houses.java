/** Houses that several tests start from, and things that several tests look at. */
final class Houses {
    static final int NO_SUCH = -1, BAD_VALUE = -2, BAD_TEXT = -3, TOO_MANY = -4, NOT_POSSIBLE = -5, NONE = -6;

    private Houses() {
    }

    static CleaningRota ofWeights(int... weights) {
        CleaningRota rota = new CleaningRota();
        for (int weight : weights) {
            rota.resident(weight);
        }
        return rota;
    }

    /** Areas that are due in each week and never get dirty. */
    static CleaningRota withEfforts(CleaningRota rota, int... efforts) {
        for (int effort : efforts) {
            rota.area(effort, 1, 0);
        }
        return rota;
    }

    static void areasOfTasks(String what, CleaningRota rota, int... areas) {
        Check.is(what + ": tasks", rota.count(3), areas.length);
        for (int task = 0; task < areas.length; task++) {
            Check.is(what + ": area of task " + task, rota.task(task, 0), areas[task]);
        }
    }

    static void residentsOfTasks(String what, CleaningRota rota, int... residents) {
        Check.is(what + ": tasks", rota.count(3), residents.length);
        for (int task = 0; task < residents.length; task++) {
            Check.is(what + ": resident of task " + task, rota.task(task, 1), residents[task]);
        }
    }

    static void effortsOfTasks(String what, CleaningRota rota, int... efforts) {
        Check.is(what + ": tasks", rota.count(3), efforts.length);
        for (int task = 0; task < efforts.length; task++) {
            Check.is(what + ": effort of task " + task, rota.task(task, 2), efforts[task]);
        }
    }

    /** Plans the week, does all of it, and ends it. */
    static void doWeek(CleaningRota rota) {
        int tasks = rota.plan();
        for (int task = 0; task < tasks; task++) {
            rota.done(task);
        }
        rota.end();
    }

    static void skipWeeks(CleaningRota rota, int weeks) {
        for (int i = 0; i < weeks; i++) {
            rota.plan();
            rota.end();
        }
    }

    static int put(CleaningRota rota, String text) {
        int length = rota.count(11);
        for (int start = 0; start < text.length(); start += 8) {
            length = rota.put(packed(text.substring(start, Math.min(text.length(), start + 8))));
        }
        return length;
    }

    static long packed(String text) {
        long characters = 0;
        for (int i = 0; i < text.length(); i++) {
            characters = characters << 8 | text.charAt(i);
        }
        return characters;
    }
}
