/** Promises 20 to 23: the pad and the lists of tasks on it. */
final class TextTest {
    private TextTest() {
    }

    static void run() {
        promise20Put();
        promise20Errors();
        promise20TooMany();
        promise21Wipe();
        promise22Fault();
        promise22FaultsAcrossPuts();
        promise22Longest();
        promise23Load();
        promise23LoadOfDeepTasks();
        promise23TwelveTasks();
        promise23ThirtyParts();
        promise23OnlyThePadAsItIs();
        promise23PassesOver();
        promise23Errors();
    }

    private static void promise20Put() {
        CleaningRota rota = new CleaningRota();
        Check.is("one character", rota.put('!'), 1);
        Check.is("another one", rota.put('~'), 2);
        Check.is("eight", rota.put(Houses.packed("12345678")), 10);
        Check.is("seven", rota.put(Houses.packed("1234567")), 17);
        Check.is("the length", rota.count(11), 17);
        Check.is("eight of the greatest", rota.put(0x7E7E7E7E7E7E7E7EL), 25);
        CleaningRota other = Houses.withEfforts(Houses.ofWeights(1), 6, 5, 4);
        other.plan();
        other.put(Houses.packed("0-"));
        other.put(Houses.packed("1"));
        Check.is("the first character is the highest one", other.load(), 2);
        Check.is("task 2 is open", other.task(2, 3), 0);
    }

    private static void promise20Errors() {
        CleaningRota rota = new CleaningRota();
        long[] wrong = {0, 32, 127, 128, 255, 256, 0x3100, 0x310031, 0x31_00000000_000031L, 0x3120, 0x2031, 0x317F, 0x7F31,
            0x3130_0000, 0x2031313131313131L, 0x7F31313131313131L, -1, Long.MIN_VALUE, Long.MAX_VALUE,
            0xB131313131313131L, 0x3100313131313131L, 0x3131313131313100L};
        for (long characters : wrong) {
            Check.is("put(" + Long.toHexString(characters) + ")", rota.put(characters), Houses.BAD_VALUE);
        }
        Check.is("nothing was put", rota.count(11), 0);
        Check.is("the least code", rota.put(33), 1);
        Check.is("the greatest code", rota.put(126), 2);
        Check.is("nothing is recorded", rota.count(12), 0);
    }

    private static void promise20TooMany() {
        CleaningRota rota = new CleaningRota();
        for (int i = 1; i <= 7; i++) {
            Check.is("eight more", rota.put(Houses.packed("1,2,3,4,")), 8 * i);
        }
        Check.is("61", rota.put(Houses.packed("5,6,7")), Houses.TOO_MANY);
        Check.is("64", rota.put(Houses.packed("5,6,7,8,")), Houses.TOO_MANY);
        Check.is("a bad value comes ahead of too many", rota.put(Houses.packed("5,6, ,8")), Houses.BAD_VALUE);
        Check.is("the length stays", rota.count(11), 56);
        Check.is("60", rota.put(Houses.packed("5,10")), 60);
        Check.is("one more", rota.put('1'), Houses.TOO_MANY);
        Check.is("no character comes ahead of too many", rota.put(0), Houses.BAD_VALUE);
        Check.is("60 characters without a fault", rota.fault(), Houses.NONE);
    }

    private static void promise21Wipe() {
        CleaningRota rota = new CleaningRota();
        Check.is("an empty pad", rota.wipe(), 0);
        Houses.put(rota, "1,2,3,4,5,6");
        Check.is("wiped", rota.wipe(), 11);
        Check.is("empty", rota.count(11), 0);
        Check.is("wiped again", rota.wipe(), 0);
        Check.is("the fault of an empty pad", rota.fault(), 0);
        Check.is("nothing is recorded", rota.count(12), 0);
        Houses.put(rota, "1");
        Check.is("what was wiped does not come back", rota.fault(), Houses.NONE);
        Check.is("put again", rota.count(11), 1);
    }

    private static void faultIs(String text, int due) {
        CleaningRota rota = new CleaningRota();
        Houses.put(rota, text);
        Check.is("fault of " + text, rota.fault(), due);
        Check.is("asking leaves the pad", rota.count(11), text.length());
        if (due != Houses.NONE) {
            Check.is("load of " + text, rota.load(), Houses.BAD_TEXT);
            Check.is("the pad stays", rota.count(11), text.length());
        }
    }

    private static void promise22Fault() {
        String[] right = {"0", "9", "10", "99", "0-0", "0-99", "99-99", "5-5", "9-10", "12-13", "0,0", "3,1,2", "10-20,5-6,7",
            "1-2,1-2", "0-1,99"};
        for (String text : right) {
            faultIs(text, Houses.NONE);
        }
        faultIs("", 0);
        faultIs("x", 0);
        faultIs("-", 0);
        faultIs(",", 0);
        faultIs("/", 0);
        faultIs(":", 0);
        faultIs("1,", 2);
        faultIs("1-", 2);
        faultIs("12-", 3);
        faultIs("1,,2", 2);
        faultIs("1,-2", 2);
        faultIs("1--2", 2);
        faultIs("1-,2", 2);
        faultIs("1x", 1);
        faultIs("1/", 1);
        faultIs("1:", 1);
        faultIs("12x", 2);
        faultIs("1-2x", 3);
        faultIs("1-2-3", 3);
        faultIs("1-2-", 3);
        faultIs("1,2-3-4", 5);
        faultIs("00", 1);
        faultIs("01", 1);
        faultIs("09,1", 1);
        faultIs("100", 2);
        faultIs("999", 2);
        faultIs("1,100", 4);
        faultIs("0-00", 3);
        faultIs("0-05", 3);
        faultIs("0-100", 4);
        faultIs("1-100", 4);
        faultIs("99-100", 3);
        faultIs("10-100", 5);
        faultIs("11-100", 3);
        faultIs("5-4", 2);
        faultIs("5-0", 2);
        faultIs("5-00", 2);
        faultIs("5-05", 2);
        faultIs("10-9", 3);
        faultIs("10-9,", 3);
        faultIs("10-9x", 3);
        faultIs("10-9-", 3);
        faultIs("20-19", 3);
        faultIs("99-98", 3);
        faultIs("99-9", 3);
        faultIs("99-989", 3);
        faultIs("5-40", Houses.NONE);
        faultIs("5-4,x", 2);
        faultIs("x,5-4", 0);
        faultIs("1,5-4", 4);
        faultIs("1-2,5-4,4-3", 6);
        faultIs("1-2,5-6,4-3,", 10);
        faultIs("1-2,,4-3", 4);
        faultIs("1 2".replace(' ', '!'), 1);
    }

    private static void promise22FaultsAcrossPuts() {
        CleaningRota rota = new CleaningRota();
        rota.put(Houses.packed("5-1"));
        Check.is("complete for now", rota.fault(), 2);
        rota.put('2');
        Check.is("a digit that belongs to it follows", rota.fault(), Houses.NONE);
        rota.put('3');
        Check.is("a digit that does not", rota.fault(), 4);
    }

    private static void promise22Longest() {
        faultIs("0,".repeat(29) + "0", Houses.NONE);
        faultIs("0,".repeat(30), 60);
        faultIs("0,".repeat(29) + "00", 59);
        faultIs("0,".repeat(28) + "10-9", 59);
        faultIs("10-11,".repeat(10), 60);
        faultIs("1".repeat(60), 2);
    }

    private static CleaningRota planned(int... efforts) {
        CleaningRota rota = Houses.withEfforts(Houses.ofWeights(1, 1), efforts);
        rota.plan();
        return rota;
    }

    private static void tasksDone(String what, CleaningRota rota, int... done) {
        for (int task = 0; task < done.length; task++) {
            Check.is(what + ": task " + task, rota.task(task, 3), done[task]);
        }
    }

    private static void promise23Load() {
        CleaningRota rota = planned(9, 8, 7, 6, 5, 4);
        rota.propose(0, 1);
        rota.propose(2, 0);
        rota.propose(5, 3);
        Houses.put(rota, "5,0-1,3");
        int states = rota.count(12);
        Check.is("four tasks became done", rota.load(), 4);
        tasksDone("loaded", rota, 1, 1, 0, 1, 0, 1);
        Check.is("done in all", rota.count(5), 4);
        Check.is("work", rota.about(0, 1) + rota.about(1, 1), 9 + 8 + 6 + 4);
        Check.is("swaps with these tasks are dropped", rota.count(7), 0);
        Check.is("areas are clean", rota.room(0, 6) + rota.room(1, 6) + rota.room(3, 6) + rota.room(5, 6), 4);
        Check.is("the pad is empty", rota.count(11), 0);
        Check.is("one state is recorded", rota.count(12), Math.min(6, states + 1));
        Check.is("an empty pad has a fault", rota.load(), Houses.BAD_TEXT);
    }

    private static void promise23LoadOfDeepTasks() {
        CleaningRota rota = Houses.ofWeights(1, 1);
        rota.area(6, 1, 200);
        rota.area(5, 1, 200);
        rota.set(CleaningRota.DIRTY, 1);
        Houses.skipWeeks(rota, 1);
        rota.plan();
        Houses.put(rota, "1-2,0");
        Check.is("three tasks", rota.load(), 3);
        Check.is("area 0 is clean", rota.room(0, 3), 0);
        Check.is("area 1 is half done", rota.room(1, 3), 200);
    }

    private static void promise23TwelveTasks() {
        CleaningRota rota = Houses.ofWeights(1, 1);
        for (int i = 0; i < 6; i++) {
            rota.area(6, 1, 200);
        }
        rota.set(CleaningRota.DIRTY, 1);
        Houses.skipWeeks(rota, 1);
        rota.plan();
        Houses.put(rota, "10-11");
        Check.is("numbers of two digits", rota.load(), 2);
        tasksDone("loaded", rota, 0, 0, 0, 0, 0, 0, 0, 0, 0, 0, 1, 1);
        Houses.put(rota, "9-99,0");
        Check.is("the two that are open of these", rota.load(), 2);
        tasksDone("loaded", rota, 1, 0, 0, 0, 0, 0, 0, 0, 0, 1, 1, 1);
    }

    private static void promise23ThirtyParts() {
        CleaningRota rota = planned(9, 8, 7);
        Houses.put(rota, "0,".repeat(29) + "2");
        Check.is("the last part, too", rota.load(), 2);
        tasksDone("loaded", rota, 1, 0, 1);
    }

    private static void promise23OnlyThePadAsItIs() {
        CleaningRota rota = planned(9, 8, 7);
        Houses.put(rota, "0,2");
        Check.is("a right list", rota.fault(), Houses.NONE);
        rota.wipe();
        Houses.put(rota, "1");
        Check.is("only what is there now", rota.load(), 1);
        tasksDone("loaded", rota, 0, 1, 0);
        Houses.put(rota, "2");
        Check.is("and then", rota.load(), 1);
        tasksDone("loaded", rota, 0, 1, 1);
    }

    private static void promise23PassesOver() {
        CleaningRota rota = planned(9, 8, 7);
        rota.done(1);
        Houses.put(rota, "1,1,0,0-2,3,4-99,99");
        Check.is("only 0 and 2", rota.load(), 2);
        tasksDone("loaded", rota, 1, 1, 1);
        Check.is("none is done twice", rota.count(5), 3);
        int states = rota.count(12);
        Houses.put(rota, "0-99");
        Check.is("nothing is left to do", rota.load(), 0);
        Check.is("the pad is empty", rota.count(11), 0);
        Check.is("a load of nothing is recorded, too", rota.count(12), Math.min(6, states + 1));
        CleaningRota empty = new CleaningRota();
        Houses.put(empty, "0-11");
        Check.is("no tasks", empty.load(), 0);
        Check.is("recorded", empty.count(12), 1);
    }

    private static void promise23Errors() {
        CleaningRota rota = planned(9, 8, 7);
        int states = rota.count(12);
        Houses.put(rota, "0,1,2-1");
        Check.is("a fault", rota.load(), Houses.BAD_TEXT);
        tasksDone("nothing is done", rota, 0, 0, 0);
        Check.is("the pad stays", rota.count(11), 7);
        Check.is("nothing is recorded", rota.count(12), states);
        Houses.put(rota, "5");
        Check.is("2-15 is right", rota.load(), 3);
    }
}
