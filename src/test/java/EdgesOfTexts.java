/** Boundaries that "Texts" and the promises 20 to 23 name. */
final class EdgesOfTexts {
    private static final int NONE = CleaningRota.NONE;
    private static final Run NEW = Run.of(), BUSY = Run.busy(), FULL = Run.full();
    /** 59 characters without a fault, and a comma. */
    private static final String SIXTY = "0,".repeat(30);

    private EdgesOfTexts() {
    }

    static void run() {
        sixtyCharacters();
        lists();
        numbers();
        leadingZeros();
        firstWrongCharacter();
        tooEarly();
        lessThanTheFirst();
        complete();
        put();
        putPositions();
        putErrors();
        wipe();
        fault();
        load();
        loadEmpties();
        loadErrors();
    }

    private static void faultIs(String text, int due) {
        Edge.is("fault of " + text, NEW.pad(text).ask(CleaningRota::fault), due);
        Run loaded = NEW.pad(text).then(CleaningRota::load);
        Edge.is("load of " + text, loaded.answer(), due == NONE ? 0 : CleaningRota.BAD_TEXT);
        Edge.is("the pad behind load of " + text, loaded.ask(r -> r.count(11)), due == NONE ? 0 : text.length());
    }

    /** Twelve open tasks of which the list has these. */
    private static void listIs(String text, int... due) {
        Run run = FULL.then(CleaningRota::wipe).pad(text).then(CleaningRota::load);
        Edge.is("tasks of " + text, run.answer(), due.length);
        int[] isDone = new int[12];
        for (int task : due) {
            isDone[task] = 1;
        }
        Edge.are("whether it is done by " + text + ": task", run, task -> r -> r.task(task, 3), isDone);
    }

    private static void sixtyCharacters() {
        Edge.of("Texts", "The pad is a text of at most 60 characters, from which numbers of tasks are read:");
        Run fiftyNine = NEW.then(r -> r.set(0, 1)).pad(SIXTY.substring(0, 59));
        Edge.is("the sixtieth", fiftyNine.ask(Run.put("1")), 60);
        Run sixty = NEW.pad(SIXTY.substring(0, 59)).then(Run.put("1"), r -> r.set(0, 1));
        Edge.refused("the one behind it", sixty, Run.put("1"), CleaningRota.TOO_MANY);
        Edge.refused("eight behind it", sixty, Run.put("12345678"), CleaningRota.TOO_MANY);
        Edge.is("the sixtieth is read, too", sixty.ask(CleaningRota::fault), 59);
        listIs(SIXTY.substring(0, 58) + "11", 0, 11);
        listIs(SIXTY.substring(0, 56) + "9-10", 0, 9, 10);
    }

    private static void lists() {
        Edge.of("Texts", "list = part { \",\" part } part = number [ \"-\" number ]");
        listIs("0", 0);
        listIs("11", 11);
        listIs("0,11", 0, 11);
        listIs("11,0", 0, 11);
        listIs("10-11", 10, 11);
        listIs("0-1,3,5-6", 0, 1, 3, 5, 6);
        listIs("2,2,2-2,1-3", 1, 2, 3);
        faultIs("", 0);
        faultIs(",", 0);
        faultIs("-", 0);
        faultIs("1,", 2);
        faultIs("1-", 2);
        faultIs("1,,", 2);
        faultIs("1-2-", 3);
        faultIs("1-2,-", 4);
        faultIs(SIXTY.substring(0, 59), NONE);
        faultIs(SIXTY, 60);
    }

    private static void numbers() {
        Edge.of("Texts", "with numbers from 0 to 99, the second one of a part not less than the first one; it stands for all numbers "
            + "from the first to the second one.");
        faultIs("0", NONE);
        faultIs("9", NONE);
        faultIs("10", NONE);
        faultIs("99", NONE);
        faultIs("100", 2);
        faultIs("-1", 0);
        faultIs("0-99", NONE);
        faultIs("0-100", 4);
        faultIs("98-99", NONE);
        faultIs("99-99", NONE);
        faultIs("99-98", 3);
        faultIs("0-0", NONE);
        faultIs("1-0", 2);
        faultIs("9-10", NONE);
        faultIs("10-9", 3);
        listIs("0-0", 0);
        listIs("11-11", 11);
        listIs("9-10", 9, 10);
        listIs("11-99", 11);
        listIs("12-99");
        listIs("0-99", 0, 1, 2, 3, 4, 5, 6, 7, 8, 9, 10, 11);
        listIs("0-11", 0, 1, 2, 3, 4, 5, 6, 7, 8, 9, 10, 11);
        listIs("1-10", 1, 2, 3, 4, 5, 6, 7, 8, 9, 10);
    }

    private static void leadingZeros() {
        Edge.of("Texts", "Numbers are without leading zeros.");
        faultIs("0", NONE);
        faultIs("00", 1);
        faultIs("01", 1);
        faultIs("09", 1);
        faultIs("10", NONE);
        faultIs("1,0", NONE);
        faultIs("1,00", 3);
        faultIs("0-0", NONE);
        faultIs("0-00", 3);
        faultIs("0-01", 3);
        faultIs("00-1", 1);
    }

    private static void firstWrongCharacter() {
        Edge.of("Texts", "The fault is the index of the first character that cannot stand at its place when the text is read from left "
            + "to right (also of a digit by which a number would be too great);");
        faultIs("!", 0);
        faultIs("~", 0);
        faultIs("/", 0);
        faultIs(":", 0);
        faultIs("1/", 1);
        faultIs("1:", 1);
        faultIs("1.", 1);
        faultIs("1+", 1);
        faultIs("12:", 2);
        faultIs("1,x", 2);
        faultIs("1-x", 2);
        faultIs("1,,2", 2);
        faultIs("1--2", 2);
        faultIs("1,-2", 2);
        faultIs("1-,2", 2);
        faultIs("1-2-3", 3);
        faultIs("1-2x", 3);
        faultIs("100", 2);
        faultIs("990", 2);
        faultIs("1000", 2);
        faultIs("1,100", 4);
        faultIs("1-100", 4);
        faultIs("10-990", 5);
        faultIs("x,x", 0);
        faultIs(SIXTY.substring(0, 59) + "x", 59);
        faultIs("1".repeat(60), 2);
    }

    private static void tooEarly() {
        Edge.of("Texts", "if there is none and the text ends too early (also if it is empty), it is the length of the text;");
        faultIs("", 0);
        faultIs("1,", 2);
        faultIs("12,", 3);
        faultIs("1-", 2);
        faultIs("12-", 3);
        faultIs("1-2,", 4);
        faultIs("1-2,3-", 6);
        faultIs("1,x,", 2);
        faultIs(SIXTY, 60);
        faultIs(SIXTY.substring(0, 58) + "0-", 60);
        Edge.is("emptied", NEW.pad("1").then(CleaningRota::wipe).ask(CleaningRota::fault), 0);
        Edge.is("it goes on", NEW.pad("1-").then(Run.put("1")).ask(CleaningRota::fault), NONE);
    }

    private static void lessThanTheFirst() {
        Edge.of("Texts", "but if a second number that is complete is less than the first one, it is the index of its first digit, if "
            + "that is less.");
        faultIs("5-4", 2);
        faultIs("5-5", NONE);
        faultIs("5-6", NONE);
        faultIs("5-0", 2);
        faultIs("50-49", 3);
        faultIs("50-50", NONE);
        faultIs("50-5", 3);
        faultIs("5-4,", 2);
        faultIs("5-4,x", 2);
        faultIs("5-4x", 2);
        faultIs("5-4-", 2);
        faultIs("5-4-9", 2);
        faultIs("5-4,9-8", 2);
        faultIs("1,5-4", 4);
        faultIs("1-2,5-4", 6);
        faultIs("x5-4", 0);
        faultIs("1,,5-4", 2);
        faultIs("01,5-4", 1);
        faultIs("100,5-4", 2);
        faultIs(SIXTY.substring(0, 56) + "1-0,", 58);
        faultIs(SIXTY.substring(0, 56) + "10-9", 59);
    }

    private static void complete() {
        Edge.of("Texts", "A number is complete if no digit that could belong to it follows.");
        faultIs("9-1", 2);
        faultIs("9-10", NONE);
        faultIs("9-1,0", 2);
        faultIs("9-1x0", 2);
        faultIs("9-08", 2);
        faultIs("0-08", 3);
        faultIs("20-100", 3);
        faultIs("10-100", 5);
        faultIs("11-100", 3);
        faultIs("99-989", 3);
        faultIs("99-990", 5);
        faultIs("9-100", 4);
        Edge.is("a digit that belongs to it comes later", NEW.pad("9-1").then(Run.put("0")).ask(CleaningRota::fault), NONE);
        Edge.is("a digit that does not comes later", NEW.pad("9-0").then(Run.put("9")).ask(CleaningRota::fault), 2);
    }

    private static void put() {
        Edge.of("Promise 20", "int put(long characters): Appends characters to the pad.");
        Edge.is("behind the ones there are", NEW.pad("1").then(Run.put("2")).ask(CleaningRota::fault), NONE);
        Run ten = FULL.then(CleaningRota::wipe, Run.put("1"), Run.put("0"), CleaningRota::load);
        Edge.is("they belong together", ten.ask(r -> r.task(10, 3)), 1);
        Edge.of("Promise 20", "They are given as a number: its lowest 8 bits are the last character, the next 8 bits the one before, "
            + "and so on;");
        Run run = FULL.then(CleaningRota::wipe);
        Edge.is("1 and 0 are 10", run.then(r -> r.put('1' << 8 | '0'), CleaningRota::load).ask(r -> r.task(10, 3)), 1);
        // 0,1,4-5, and then 9: eight characters, of which the first one has the highest bits.
        Run eight = run.then(r -> r.put(0x30_2C_31_2C_34_2D_35_2CL), r -> r.put(0x39), CleaningRota::load);
        Edge.are("eight: whether it is done: task", eight, task -> r -> r.task(task, 3), 1, 1, 0, 0, 1, 1, 0, 0, 0, 1, 0, 0);
        Edge.of("Promise 20", "characters: 1 to 8 characters");
        Edge.refused("0", BUSY, r -> r.put(0), CleaningRota.BAD_VALUE);
        for (int many = 1; many <= 8; many++) {
            String text = "12345678".substring(0, many);
            Edge.is(many + " characters", NEW.ask(Run.put(text)), many);
            Edge.is(many + " characters behind others", NEW.pad("1,").ask(Run.put(text)), 2 + many);
        }
        Edge.of("Promise 20", "Returns the length of the pad then;");
        Edge.is("the first one", NEW.ask(Run.put("1")), 1);
        Edge.is("the last one", NEW.pad(SIXTY.substring(0, 59)).ask(Run.put("1")), 60);
        Edge.is("the last eight", NEW.pad(SIXTY.substring(0, 52)).ask(Run.put("12345678")), 60);
        Edge.is("wiped", NEW.pad(SIXTY).then(CleaningRota::wipe).ask(Run.put("12345678")), 8);
    }

    /** Seven characters and this code at one of eight places, the last one of which is 0. */
    private static long withCode(int code, int place) {
        long characters = 0x3131313131313131L & ~(255L << 8 * place);
        return characters | (long) code << 8 * place;
    }

    private static void putPositions() {
        Edge.of("Promise 20", "8 bits that are 0 mean that there are no more characters, and everything above them has to be 0, too.");
        for (int many = 1; many <= 7; many++) {
            long characters = 0x3131313131313131L >>> 8 * (8 - many);
            Edge.is(many + " characters and zeros", NEW.ask(r -> r.put(characters)), many);
            for (int bit = 8 * many + 8; bit < 64; bit++) {
                long wrong = characters | 1L << bit;
                Edge.is(many + " characters and bit " + bit, NEW.ask(r -> r.put(wrong)), CleaningRota.BAD_VALUE);
            }
        }
        Edge.refused("1, nothing and 1", BUSY, r -> r.put(0x31_00_31), CleaningRota.BAD_VALUE);
        Edge.refused("1, nothing and 111111", BUSY, r -> r.put(0x31_00_31_31_31_31_31_31L), CleaningRota.BAD_VALUE);
        Edge.refused("111111, nothing and 1", BUSY, r -> r.put(0x31_31_31_31_31_31_00_31L), CleaningRota.BAD_VALUE);
    }

    private static void putErrors() {
        Edge.of("Promise 20", "BAD_VALUE if there is no character, a code is not 33 to 126, or a bit above 8 bits that are 0 is not 0;");
        Edge.range("code", NEW.then(r -> r.set(0, 1)), code -> r -> r.put(code), 33, 126, CleaningRota.BAD_VALUE);
        for (int place = 0; place < 8; place++) {
            for (int code : new int[] {33, 126}) {
                long right = withCode(code, place);
                Edge.is("code " + code + " at " + place, NEW.ask(r -> r.put(right)), 8);
            }
            for (int code : new int[] {1, 32, 127, 128, 255}) {
                long wrong = withCode(code, place);
                Edge.refused("code " + code + " at " + place, BUSY, r -> r.put(wrong), CleaningRota.BAD_VALUE);
            }
        }
        for (int place = 0; place < 7; place++) {
            long wrong = withCode(0, place);
            Edge.refused("nothing at " + place, BUSY, r -> r.put(wrong), CleaningRota.BAD_VALUE);
        }
        for (int bit = 8; bit < 64; bit++) {
            long wrong = 1L << bit;
            Edge.is("no character and bit " + bit, NEW.ask(r -> r.put(wrong)), CleaningRota.BAD_VALUE);
        }
        Edge.is("nothing ahead of seven", NEW.ask(r -> r.put(withCode(0, 7))), 7);
        Edge.refused("all bits", BUSY, r -> r.put(-1), CleaningRota.BAD_VALUE);
        Edge.refused("the least number", BUSY, r -> r.put(Long.MIN_VALUE), CleaningRota.BAD_VALUE);
        Edge.refused("the greatest number", BUSY, r -> r.put(Long.MAX_VALUE), CleaningRota.BAD_VALUE);
        Edge.refused("no character, with a full pad", FULL, r -> r.put(0), CleaningRota.BAD_VALUE);
        Edge.refused("a wrong code, with a full pad", FULL, r -> r.put(127), CleaningRota.BAD_VALUE);
        Edge.refused("a bit above, with a full pad", FULL, r -> r.put(0x31_00_31), CleaningRota.BAD_VALUE);
        Edge.of("Promise 20", "TOO_MANY if the pad would be longer than 60.");
        for (int many = 1; many <= 8; many++) {
            Run.Call put = Run.put("12345678".substring(0, many));
            Edge.is("60 by " + many, NEW.pad(SIXTY.substring(0, 60 - many)).ask(put), 60);
            Run run = NEW.pad(SIXTY.substring(0, 61 - many)).then(r -> r.set(0, 1));
            Edge.refused("61 by " + many, run, put, CleaningRota.TOO_MANY);
            Edge.refused("60 and " + many, FULL, put, CleaningRota.TOO_MANY);
        }
        Edge.is("fewer fit, when more do not", NEW.pad(SIXTY.substring(0, 56)).then(Run.put("12345")).ask(Run.put("1234")), 60);
    }

    private static void wipe() {
        Edge.of("Promise 21", "int wipe(): Empties the pad, and returns the length that it had.");
        Edge.is("empty", NEW.ask(CleaningRota::wipe), 0);
        Edge.is("one", NEW.pad("1").ask(CleaningRota::wipe), 1);
        Edge.is("sixty", FULL.ask(CleaningRota::wipe), 60);
        Edge.is("the length then", FULL.then(CleaningRota::wipe).ask(r -> r.count(11)), 0);
        Edge.is("the fault then", FULL.then(CleaningRota::wipe).ask(CleaningRota::fault), 0);
        Edge.is("wiped again", FULL.then(CleaningRota::wipe).ask(CleaningRota::wipe), 0);
        Edge.is("sixty fit again", FULL.then(CleaningRota::wipe).pad(SIXTY).ask(r -> r.count(11)), 60);
        Edge.is("a text with a fault", NEW.pad("-").ask(CleaningRota::wipe), 1);
        Edge.sameState("an empty pad, wiped", BUSY.then(CleaningRota::wipe, CleaningRota::wipe), BUSY.then(CleaningRota::wipe));
    }

    private static void fault() {
        Edge.of("Promise 22", "int fault(): Returns the fault of the pad, NONE if there is none.");
        Edge.is("none", NEW.pad("0").ask(CleaningRota::fault), NONE);
        Edge.is("none in a full pad", FULL.ask(CleaningRota::fault), NONE);
        Edge.is("empty", NEW.ask(CleaningRota::fault), 0);
        Edge.is("at the first character", NEW.pad("x").ask(CleaningRota::fault), 0);
        Edge.is("at the last one of sixty", NEW.pad(SIXTY.substring(0, 59) + "0").ask(CleaningRota::fault), 59);
        Edge.is("behind the last one of sixty", NEW.pad(SIXTY).ask(CleaningRota::fault), 60);
        Edge.is("a number of a task that there is not is no fault", NEW.pad("99").ask(CleaningRota::fault), NONE);
        Edge.is("asked again", NEW.pad("1,").then(CleaningRota::fault).ask(CleaningRota::fault), 2);
        for (Run run : new Run[] {NEW, BUSY, FULL, NEW.pad("5-4")}) {
            Edge.sameState("it changes nothing", run.then(CleaningRota::fault), run);
        }
    }

    private static void load() {
        Edge.of("Promise 23", "int load(): Tells of all tasks of the pad, in the order of the pad, that they are done; those that do not "
            + "exist, or are done, are passed over.");
        listIs("11", 11);
        listIs("12");
        listIs("11-12", 11);
        listIs("99");
        listIs("0,0", 0);
        listIs("0-2,1-3", 0, 1, 2, 3);
        listIs(SIXTY.substring(0, 58) + "11", 0, 11);
        Run five = BUSY.then(CleaningRota::wipe);
        Edge.is("the last one of five", five.pad("4").ask(CleaningRota::load), 1);
        Edge.is("behind the last one of five", five.pad("5").ask(CleaningRota::load), 0);
        Edge.is("done already", five.pad("2").ask(CleaningRota::load), 0);
        Edge.is("done already, among others", five.pad("1-3").ask(CleaningRota::load), 2);
        Edge.sameState("as if each of them were done", five.pad("3,0-1").then(CleaningRota::load),
            five.then(r -> r.done(3), r -> r.done(0), r -> r.done(1)));
        Run same = Run.weights(1, 1).efforts(5, 4);
        Edge.sameState("as if one of them were done", same.then(CleaningRota::plan, Run.put("1"), CleaningRota::load),
            same.then(CleaningRota::plan, r -> r.done(1)));
        Edge.is("not planned", same.pad("0-99").ask(CleaningRota::load), 0);
        Edge.is("when the week has ended", same.skipWeeks(1).pad("0-1").ask(CleaningRota::load), 0);
        Edge.is("swaps with them are dropped", BUSY.then(CleaningRota::load).ask(r -> r.count(7)), 0);
    }

    private static void loadEmpties() {
        Edge.of("Promise 23", "The pad is emptied.");
        Edge.is("of sixty", FULL.then(CleaningRota::load).ask(r -> r.count(11)), 0);
        Edge.is("when nothing became done", NEW.pad("0").then(CleaningRota::load).ask(r -> r.count(11)), 0);
        Edge.is("its fault then", NEW.pad("0").then(CleaningRota::load).ask(CleaningRota::fault), 0);
        Edge.is("loaded again", NEW.pad("0").then(CleaningRota::load).ask(CleaningRota::load), CleaningRota.BAD_TEXT);
        Run earlier = FULL.then(CleaningRota::wipe).pad("0-5").then(CleaningRota::load, CleaningRota::undo).pad("7")
            .then(CleaningRota::load);
        Edge.is("a list that was loaded before is not loaded again", earlier.answer(), 1);
        Edge.is("a list that was read and wiped is not loaded", FULL.then(CleaningRota::fault, CleaningRota::wipe).pad("7")
            .ask(CleaningRota::load), 1);
        Edge.is("not by undo()", NEW.pad("0").then(CleaningRota::load, Run.put("12"), CleaningRota::undo).ask(r -> r.count(11)), 2);
    }

    private static void loadErrors() {
        Edge.of("Promise 23", "Returns the number of tasks that became done; BAD_TEXT if the pad has a fault.");
        Edge.is("none", NEW.pad("0").ask(CleaningRota::load), 0);
        Edge.is("one", FULL.then(CleaningRota::wipe).pad("11").ask(CleaningRota::load), 1);
        Edge.is("twelve", FULL.then(CleaningRota::wipe).pad("0-11").ask(CleaningRota::load), 12);
        Edge.is("two of thirty parts", FULL.ask(CleaningRota::load), 2);
        Run run = Run.weights(1, 1).efforts(9, 8, 7).then(CleaningRota::plan, r -> r.propose(0, 1));
        Edge.refused("empty", run, CleaningRota::load, CleaningRota.BAD_TEXT);
        for (String text : new String[] {"x", "0,", "0-2,1-0", "0,1,2,", "0,1,2x", "0,1,00", "0,1,100"}) {
            Run withText = Run.weights(1, 1).efforts(9, 8, 7).pad(text).then(CleaningRota::plan, r -> r.propose(0, 1));
            Edge.refused(text, withText, CleaningRota::load, CleaningRota.BAD_TEXT);
        }
        Edge.refusedWithoutChange("emptied", run.then(Run.put("2"), CleaningRota::load), CleaningRota::load, CleaningRota.BAD_TEXT);
        Edge.refusedWithoutChange("in a new house", NEW, CleaningRota::load, CleaningRota.BAD_TEXT);
        Edge.refusedWithoutChange("with a full pad", NEW.pad(SIXTY), CleaningRota::load, CleaningRota.BAD_TEXT);
    }
}
