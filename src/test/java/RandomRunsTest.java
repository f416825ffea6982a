/** Long runs of calls, drawn by a fixed rule, that the program and the plain model have to answer alike. */
final class RandomRunsTest {
    private static final int RUNS = 3000;
    private static final int MOST_CALLS = 512;
    private static final int MOST_WRONG_RUNS = 5;
    private static final String SIGNS = "0123456789,-,-,-01";

    private final CleaningRota rota = new CleaningRota();
    private final PlainRota plain = new PlainRota();
    private final StringBuilder told = new StringBuilder();
    private final int style;
    private long seed;
    private boolean isWrong = false;

    private RandomRunsTest(int run) {
        seed = 0x9E3779B97F4A7C15L * (run + 1);
        style = run % 6;
    }

    static void run() {
        int wrongRuns = 0;
        for (int run = 0; run < RUNS && wrongRuns < MOST_WRONG_RUNS; run++) {
            RandomRunsTest test = new RandomRunsTest(run);
            test.play(run);
            wrongRuns += test.isWrong ? 1 : 0;
        }
    }

    private void play(int run) {
        furnish();
        for (int call = 0; call < MOST_CALLS - 20 && !isWrong; call++) {
            draw();
        }
        if (isWrong) {
            System.out.println("run " + run + " went wrong behind:\n" + told);
        }
    }

    private void due(String call, int got, int want) {
        told.append(call).append(" -> ").append(got).append('\n');
        Check.is("random run: " + call, got, want);
        isWrong |= got != want;
    }

    private int number(int least, int greatest) {
        seed = seed * 6364136223846793005L + 1442695040888963407L;
        return least + (int) ((seed >>> 33) % (greatest - least + 1));
    }

    /** Mostly a number of the range, now and then one beside it or far from it. */
    private int near(int least, int greatest) {
        switch (number(0, 23)) {
            case 0: return least - 1;
            case 1: return greatest + 1;
            case 2: return number(0, 1) == 0 ? Integer.MIN_VALUE : Integer.MAX_VALUE;
            case 3: return least;
            case 4: return greatest;
            default: return greatest < least ? least : number(least, greatest);
        }
    }

    private void furnish() {
        int residents = style == 0 ? number(0, 2) : number(2, 8);
        for (int i = 0; i < residents; i++) {
            resident(number(1, style == 1 ? 2 : 10));
        }
        int areas = style == 0 ? number(0, 3) : number(2, 6);
        for (int i = 0; i < areas; i++) {
            area(style == 2 ? number(4, 6) : number(1, 20), number(1, 4), style == 3 ? 200 : number(0, 200));
        }
        if (style == 4) {
            set(CleaningRota.DIRTY, number(1, 300));
        }
    }

    private void resident(int weight) {
        due("resident(" + weight + ")", rota.resident(weight), plain.resident(weight));
    }

    private void area(int effort, int period, int growth) {
        due("area(" + effort + ", " + period + ", " + growth + ")",
            rota.area(effort, period, growth), plain.area(effort, period, growth));
    }

    private void set(int setting, int value) {
        due("set(" + setting + ", " + value + ")", rota.set(setting, value), plain.set(setting, value));
    }

    private int someTask() {
        return near(0, plain.count(3) - 1);
    }

    private int someResident() {
        return near(0, plain.count(1) - 1);
    }

    private int someArea() {
        return near(0, plain.count(2) - 1);
    }

    private void draw() {
        int kind = number(0, 99);
        if (kind < 40) {
            drawWeek();
        } else if (kind < 55) {
            drawSwap();
        } else if (kind < 62) {
            drawHouse();
        } else if (kind < 92) {
            drawQuestion();
        } else {
            drawText();
        }
    }

    private void drawWeek() {
        int kind = number(0, 19);
        if (kind < 4) {
            due("plan()", rota.plan(), plain.plan());
        } else if (kind < 13) {
            int task = someTask();
            due("done(" + task + ")", rota.done(task), plain.done(task));
        } else if (kind < 16) {
            due("end()", rota.end(), plain.end());
        } else if (kind < 18) {
            int resident = someResident();
            int area = someArea();
            due("extra(" + resident + ", " + area + ")", rota.extra(resident, area), plain.extra(resident, area));
        } else {
            due("undo()", rota.undo(), plain.undo());
        }
    }

    private void drawSwap() {
        if (number(0, 2) > 0) {
            int one = someTask();
            int other = someTask();
            due("propose(" + one + ", " + other + ")", rota.propose(one, other), plain.propose(one, other));
        } else {
            int swap = near(0, plain.count(7) - 1);
            int yes = near(0, 1);
            due("answer(" + swap + ", " + yes + ")", rota.answer(swap, yes), plain.answer(swap, yes));
        }
    }

    private void drawHouse() {
        switch (number(0, 5)) {
            case 0: resident(near(1, 10)); break;
            case 1: area(near(1, 20), near(1, 4), near(0, 200)); break;
            case 2: drawSetting(); break;
            case 3: {
                int resident = someResident();
                int weight = near(1, 10);
                due("weigh(" + resident + ", " + weight + ")", rota.weigh(resident, weight), plain.weigh(resident, weight));
                break;
            }
            default: {
                int resident = someResident();
                int from = number(0, 9) == 0 ? near(0, 999) : Math.max(0, plain.count(0) + number(-2, 3));
                int to = number(0, 9) == 0 ? near(from, 999) : from + number(0, 4);
                due("away(" + resident + ", " + from + ", " + to + ")",
                    rota.away(resident, from, to), plain.away(resident, from, to));
            }
        }
    }

    private void drawSetting() {
        int setting = near(0, 3);
        int value = setting == 2 ? near(2, 6) : setting == 3 ? near(1, number(0, 1) == 0 ? 1000 : 300) : near(0, 100);
        set(setting, value);
    }

    private void drawQuestion() {
        int what;
        switch (number(0, 6)) {
            case 0:
                what = near(0, 8);
                int resident = someResident();
                due("about(" + resident + ", " + what + ")", rota.about(resident, what), plain.about(resident, what));
                break;
            case 1:
                what = near(0, 6);
                int area = someArea();
                due("room(" + area + ", " + what + ")", rota.room(area, what), plain.room(area, what));
                break;
            case 2:
                what = near(0, 4);
                int task = someTask();
                due("task(" + task + ", " + what + ")", rota.task(task, what), plain.task(task, what));
                break;
            case 3:
                what = near(0, 3);
                int swap = near(0, plain.count(7) - 1);
                due("swap(" + swap + ", " + what + ")", rota.swap(swap, what), plain.swap(swap, what));
                break;
            case 4:
                what = near(0, 16);
                due("count(" + what + ")", rota.count(what), plain.count(what));
                break;
            case 5:
                what = near(0, 2);
                due("fairer(" + what + ")", rota.fairer(what), plain.fairer(what));
                break;
            default:
                what = near(0, 3);
                int weeks = number(0, 9) == 0 ? near(0, 60) : number(0, 6);
                due("forecast(" + weeks + ", " + what + ")", rota.forecast(weeks, what), plain.forecast(weeks, what));
        }
    }

    private void drawText() {
        int kind = number(0, 9);
        if (kind < 5) {
            long characters = someCharacters();
            due("put(" + characters + "L)", rota.put(characters), plain.put(characters));
        } else if (kind < 7) {
            due("fault()", rota.fault(), plain.fault());
        } else if (kind < 9) {
            due("load()", rota.load(), plain.load());
        } else {
            due("wipe()", rota.wipe(), plain.wipe());
        }
    }

    private long someCharacters() {
        long characters = 0;
        int many = number(0, 8);
        for (int i = 0; i < many; i++) {
            int code = number(0, 39) == 0 ? number(0, 255) : SIGNS.charAt(number(0, SIGNS.length() - 1));
            characters = characters << 8 | code;
        }
        return characters;
    }
}
