/** The cleaning rota of a shared house. What each call promises stands in ../shared/DOC.md. */
public final class CleaningRota {
    public static final int NO_SUCH = -1, BAD_VALUE = -2, BAD_TEXT = -3, TOO_MANY = -4, NOT_POSSIBLE = -5, NONE = -6;
    public static final int PENALTY = 0, DECAY = 1, DEEP = 2, DIRTY = 3;

    private static final int LAST_WEEK = 999;
    private static final int MOST_FORECAST_WEEKS = 60;
    private static final int MOST_CHARACTERS = 60;

    private final House house;
    /** Forecasts are played through here, so that they make no objects and change nothing. */
    private final House trial;
    private final History history;
    private final Pad pad;

    public CleaningRota() {
        house = new House();
        trial = new House();
        history = new History();
        pad = new Pad();
    }

    // ---- residents, areas, settings

    public int resident(int weight) {
        if (!isWeight(weight)) {
            return BAD_VALUE;
        }
        if (house.residents.isFull()) {
            return TOO_MANY;
        }
        history.keep(house);
        return house.addResident(weight);
    }

    public int weigh(int resident, int weight) {
        if (!house.residents.has(resident)) {
            return NO_SUCH;
        }
        if (!isWeight(weight)) {
            return BAD_VALUE;
        }
        history.keep(house);
        return house.residents.exchange(resident, House.WEIGHT, weight);
    }

    public int away(int resident, int from, int to) {
        if (!house.residents.has(resident)) {
            return NO_SUCH;
        }
        if (!isIn(from, 0, LAST_WEEK) || !isIn(to, from, LAST_WEEK)) {
            return BAD_VALUE;
        }
        history.keep(house);
        house.residents.write(resident, House.AWAY_FROM, from);
        house.residents.write(resident, House.AWAY_TO, to);
        return bit(house.isAway(resident));
    }

    public int area(int effort, int period, int growth) {
        if (!isIn(effort, 1, 20) || !isIn(period, 1, 4) || !isIn(growth, 0, 200)) {
            return BAD_VALUE;
        }
        if (house.areas.isFull()) {
            return TOO_MANY;
        }
        history.keep(house);
        return house.addArea(effort, period, growth);
    }

    public int set(int setting, int value) {
        if (!isSettingValue(setting, value)) {
            return BAD_VALUE;
        }
        history.keep(house);
        return house.settings.exchange(0, setting, value);
    }

    // ---- weeks and tasks

    public int plan() {
        if (house.isPlanned) {
            return NOT_POSSIBLE;
        }
        history.keep(house);
        return house.planWeek();
    }

    public int done(int task) {
        if (!house.tasks.has(task)) {
            return NO_SUCH;
        }
        if (!house.isOpen(task)) {
            return NOT_POSSIBLE;
        }
        history.keep(house);
        return house.finish(task);
    }

    public int extra(int resident, int area) {
        if (!house.residents.has(resident) || !house.areas.has(area)) {
            return NO_SUCH;
        }
        if (house.residents.cell(resident, House.DEBT) == 0 || house.isAway(resident)) {
            return NOT_POSSIBLE;
        }
        history.keep(house);
        return house.payDebt(resident, area);
    }

    public int end() {
        if (!house.isPlanned || house.week >= LAST_WEEK) {
            return NOT_POSSIBLE;
        }
        history.keep(house);
        return house.endWeek();
    }

    // ---- swaps

    public int propose(int one, int other) {
        if (!house.tasks.has(one) || !house.tasks.has(other)) {
            return NO_SUCH;
        }
        if (!house.canExchange(one, other) || house.isProposed(one, other)) {
            return NOT_POSSIBLE;
        }
        if (house.swaps.isFull()) {
            return TOO_MANY;
        }
        history.keep(house);
        return house.addSwap(one, other);
    }

    public int answer(int swap, int yes) {
        if (!house.swaps.has(swap)) {
            return NO_SUCH;
        }
        if (!isIn(yes, 0, 1)) {
            return BAD_VALUE;
        }
        history.keep(house);
        return yes == 1 ? house.acceptSwap(swap) : house.declineSwap(swap);
    }

    // ---- what there is

    public int about(int resident, int what) {
        if (!house.residents.has(resident)) {
            return NO_SUCH;
        }
        switch (what) {
            case 0: return house.residents.cell(resident, House.WEIGHT);
            case 1: return house.residents.cell(resident, House.WORK);
            case 2: return house.residents.cell(resident, House.DEBT);
            case 3: return house.residents.cell(resident, House.POINTS);
            case 4: return house.loadOf(resident);
            case 5: return house.rateOf(resident, house.residents.cell(resident, House.WORK));
            case 6: return house.countOpenTasksOf(resident);
            case 7: return house.firstOpenTaskOf(resident);
            case 8: return bit(house.isAway(resident));
            default: return BAD_VALUE;
        }
    }

    public int room(int area, int what) {
        if (!house.areas.has(area)) {
            return NO_SUCH;
        }
        switch (what) {
            case 0: return house.areas.cell(area, House.AREA_EFFORT);
            case 1: return house.areas.cell(area, House.PERIOD);
            case 2: return house.areas.cell(area, House.GROWTH);
            case 3: return house.areas.cell(area, House.DIRT);
            case 4: return bit(house.needsDeepClean(area));
            case 5: return bit(house.isDue(area));
            case 6: return house.areas.cell(area, House.CLEANED);
            default: return BAD_VALUE;
        }
    }

    public int task(int task, int what) {
        if (!house.tasks.has(task)) {
            return NO_SUCH;
        }
        switch (what) {
            case 0: return house.tasks.cell(task, House.TASK_AREA);
            case 1: return house.tasks.cell(task, House.TASK_RESIDENT);
            case 2: return house.tasks.cell(task, House.TASK_EFFORT);
            case 3: return house.tasks.cell(task, House.TASK_DONE);
            case 4: return house.tasks.cell(task, House.TASK_DEEP);
            default: return BAD_VALUE;
        }
    }

    public int swap(int swap, int what) {
        if (!house.swaps.has(swap)) {
            return NO_SUCH;
        }
        int one = house.swaps.cell(swap, House.SWAP_ONE);
        int other = house.swaps.cell(swap, House.SWAP_OTHER);
        switch (what) {
            case 0: return one;
            case 1: return other;
            case 2: return house.tasks.cell(one, House.TASK_RESIDENT);
            case 3: return house.tasks.cell(other, House.TASK_RESIDENT);
            default: return BAD_VALUE;
        }
    }

    public int count(int what) {
        switch (what) {
            case 0: return house.week;
            case 1: return house.residents.size();
            case 2: return house.areas.size();
            case 3: return house.tasks.size();
            case 4: return house.countOpenTasks();
            case 5: return house.tasksDone;
            case 6: return house.tasksSkipped;
            case 7: return house.swaps.size();
            case 8: return bit(house.isPlanned);
            case 9: return house.spread();
            case 10: return house.plannedSpread();
            case 11: return pad.length;
            case 12: return history.kept;
            case 13: return house.settings.cell(0, PENALTY);
            case 14: return house.settings.cell(0, DECAY);
            case 15: return house.settings.cell(0, DEEP);
            case 16: return house.settings.cell(0, DIRTY);
            default: return BAD_VALUE;
        }
    }

    // ---- forecasts; nothing changes

    public int forecast(int weeks, int what) {
        if (!isIn(weeks, 0, MOST_FORECAST_WEEKS) || !isIn(what, 0, 3)) {
            return BAD_VALUE;
        }
        trial.copyFrom(house);
        int deepTasks = 0;
        for (int i = 0; i < weeks && trial.week < LAST_WEEK; i++) {
            if (!trial.isPlanned) {
                trial.planWeek();
            }
            deepTasks += trial.countOpenDeepTasks();
            trial.finishOpenTasks();
            trial.endWeek();
        }
        switch (what) {
            case 0: return trial.spread();
            case 1: return trial.tasksDone - house.tasksDone;
            case 2: return deepTasks;
            default: return trial.greatestDirt();
        }
    }

    public int fairer(int what) {
        if (!isIn(what, 0, 2)) {
            return BAD_VALUE;
        }
        int first = NONE;
        int second = NONE;
        int least = house.plannedSpread();
        for (int one = 0; one < house.tasks.size(); one++) {
            for (int other = one + 1; other < house.tasks.size(); other++) {
                int spread = house.canExchange(one, other) ? house.spreadIfExchanged(one, other) : least;
                if (spread < least) {
                    first = one;
                    second = other;
                    least = spread;
                }
            }
        }
        if (first == NONE) {
            return NONE;
        }
        switch (what) {
            case 0: return first;
            case 1: return second;
            default: return least;
        }
    }

    // ---- texts

    public int put(long characters) {
        int more = Pad.countCharacters(characters);
        if (more == 0) {
            return BAD_VALUE;
        }
        if (pad.length + more > MOST_CHARACTERS) {
            return TOO_MANY;
        }
        pad.append(characters, more);
        return pad.length;
    }

    public int wipe() {
        int length = pad.length;
        pad.length = 0;
        return length;
    }

    public int fault() {
        return pad.read();
    }

    public int load() {
        if (pad.read() != NONE) {
            return BAD_TEXT;
        }
        history.keep(house);
        int before = house.tasksDone;
        for (int part = 0; part < pad.parts.size(); part++) {
            house.finishFromTo(pad.parts.cell(part, Pad.FIRST), pad.parts.cell(part, Pad.LAST));
        }
        pad.length = 0;
        return house.tasksDone - before;
    }

    // ---- undo

    public int undo() {
        if (history.kept == 0) {
            return NOT_POSSIBLE;
        }
        history.restore(house);
        return history.kept;
    }

    private static boolean isIn(int value, int least, int greatest) {
        return value >= least && value <= greatest;
    }

    private static boolean isWeight(int weight) {
        return isIn(weight, 1, 10);
    }

    private static boolean isSettingValue(int setting, int value) {
        switch (setting) {
            case PENALTY: return isIn(value, 0, 100);
            case DECAY: return isIn(value, 0, 100);
            case DEEP: return isIn(value, 2, 6);
            case DIRTY: return isIn(value, 1, 1000);
            default: return false;
        }
    }

    private static int bit(boolean holds) {
        return holds ? 1 : 0;
    }

    /**
     * Rows of numbers, with room for as many as there can be from the start, so that no call makes objects.
     * A cell that does not exist reads as 0 and is not written: no index can go astray.
     */
    private static final class Table {
        private final int most;
        private final int width;
        private final int[] cells;
        private int rows;

        Table(int most, int width) {
            this.most = most;
            this.width = width;
            this.cells = new int[Math.max(0, most * width)];
        }

        int size() {
            return rows;
        }

        boolean isFull() {
            return rows >= most;
        }

        boolean has(int row) {
            return row >= 0 && row < rows;
        }

        int cell(int row, int column) {
            if (row < 0 || row >= rows || column < 0 || column >= width) {
                return 0;
            }
            int at = row * width + column;
            return at < cells.length ? cells[at] : 0;
        }

        void write(int row, int column, int value) {
            if (row < 0 || row >= rows || column < 0 || column >= width) {
                return;
            }
            int at = row * width + column;
            if (at < cells.length) {
                cells[at] = value;
            }
        }

        void increase(int row, int column, int by) {
            write(row, column, cell(row, column) + by);
        }

        int exchange(int row, int column, int value) {
            int previous = cell(row, column);
            write(row, column, value);
            return previous;
        }

        /** Appends a row of zeros; returns its number, or NONE if there is no room. */
        int append() {
            if (isFull()) {
                return NONE;
            }
            rows++;
            int row = rows - 1;
            for (int column = 0; column < width; column++) {
                write(row, column, 0);
            }
            return row;
        }

        void remove(int row) {
            if (!has(row)) {
                return;
            }
            for (int next = row + 1; next < rows; next++) {
                for (int column = 0; column < width; column++) {
                    write(next - 1, column, cell(next, column));
                }
            }
            rows--;
        }

        void clear() {
            rows = 0;
        }

        void copyFrom(Table other) {
            System.arraycopy(other.cells, 0, cells, 0, Math.min(cells.length, other.cells.length));
            rows = other.rows;
        }
    }

    /** All that undo() restores. */
    private static final class House {
        static final int WEIGHT = 0, AWAY_FROM = 1, AWAY_TO = 2, WORK = 3, DEBT = 4, POINTS = 5;
        /** The efforts of the open tasks of a resident: kept, as planning asks for loads very often. */
        static final int OPEN_EFFORT = 6;
        static final int RESIDENT_COLUMNS = 7;
        static final int AREA_EFFORT = 0, PERIOD = 1, GROWTH = 2, DIRT = 3, CLEANED = 4, AREA_COLUMNS = 5;
        static final int TASK_AREA = 0, TASK_RESIDENT = 1, TASK_EFFORT = 2, TASK_DONE = 3, TASK_DEEP = 4;
        static final int TASK_COLUMNS = 5;
        static final int SWAP_ONE = 0, SWAP_OTHER = 1, SWAP_COLUMNS = 2;
        static final int MOST_RESIDENTS = 8, MOST_AREAS = 6, MOST_TASKS = 2 * MOST_AREAS, MOST_SWAPS = 6;
        static final int SETTINGS = 4;
        static final int MOST_DIRT = 1000;

        private final Table residents;
        private final Table areas;
        private final Table tasks;
        private final Table swaps;
        /** One row, with the settings as its columns. */
        private final Table settings;
        private int week;
        private boolean isPlanned;
        private int tasksDone;
        private int tasksSkipped;

        House() {
            residents = new Table(MOST_RESIDENTS, RESIDENT_COLUMNS);
            areas = new Table(MOST_AREAS, AREA_COLUMNS);
            tasks = new Table(MOST_TASKS, TASK_COLUMNS);
            swaps = new Table(MOST_SWAPS, SWAP_COLUMNS);
            settings = new Table(1, SETTINGS);
            settings.append();
            settings.write(0, PENALTY, 20);
            settings.write(0, DECAY, 25);
            settings.write(0, DEEP, 3);
            settings.write(0, DIRTY, 250);
        }

        void copyFrom(House other) {
            residents.copyFrom(other.residents);
            areas.copyFrom(other.areas);
            tasks.copyFrom(other.tasks);
            swaps.copyFrom(other.swaps);
            settings.copyFrom(other.settings);
            week = other.week;
            isPlanned = other.isPlanned;
            tasksDone = other.tasksDone;
            tasksSkipped = other.tasksSkipped;
        }

        int addResident(int weight) {
            int resident = residents.append();
            residents.write(resident, WEIGHT, weight);
            // From behind to: away in no week.
            residents.write(resident, AWAY_FROM, 0);
            residents.write(resident, AWAY_TO, -1);
            return resident;
        }

        boolean isAway(int resident) {
            return isIn(week, residents.cell(resident, AWAY_FROM), residents.cell(resident, AWAY_TO));
        }

        int loadOf(int resident) {
            return residents.cell(resident, WORK) + residents.cell(resident, OPEN_EFFORT);
        }

        int addArea(int effort, int period, int growth) {
            int area = areas.append();
            areas.write(area, AREA_EFFORT, effort);
            areas.write(area, PERIOD, period);
            areas.write(area, GROWTH, growth);
            return area;
        }

        boolean needsDeepClean(int area) {
            return areas.cell(area, DIRT) >= settings.cell(0, DIRTY);
        }

        boolean isDue(int area) {
            int period = areas.cell(area, PERIOD);
            return period > 0 && week % period == area % period;
        }

        int greatestDirt() {
            int greatest = 0;
            for (int area = 0; area < areas.size(); area++) {
                greatest = Math.max(greatest, areas.cell(area, DIRT));
            }
            return greatest;
        }

        private void clean(int area) {
            areas.write(area, DIRT, 0);
            areas.increase(area, CLEANED, 1);
        }

        int planWeek() {
            isPlanned = true;
            boolean isAnybodyHere = leastLoaded(NONE) != NONE;
            if (isAnybodyHere) {
                makeTasks();
                giveTasks();
            }
            return tasks.size();
        }

        private void makeTasks() {
            int finished = 0;
            for (int i = 0; i < areas.size(); i++) {
                int area = areaOfNextTask(finished);
                if (area == NONE) {
                    return;
                }
                finished |= 1 << area;
                int effort = effortOfTask(area);
                boolean isDeep = needsDeepClean(area);
                addTask(area, effort, isDeep);
                if (isDeep) {
                    addTask(area, effort, isDeep);
                }
            }
        }

        /** Of the areas that are not in the set of finished ones, the first one whose tasks take most effort. */
        private int areaOfNextTask(int finished) {
            int next = NONE;
            int greatest = 0;
            for (int area = 0; area < areas.size(); area++) {
                int effort = effortOfTask(area);
                if ((finished >> area & 1) == 0 && effort > greatest) {
                    next = area;
                    greatest = effort;
                }
            }
            return next;
        }

        /** The effort of each task that the area gets in this week, 0 if it gets none. */
        private int effortOfTask(int area) {
            int effort = areas.cell(area, AREA_EFFORT);
            if (needsDeepClean(area)) {
                return (settings.cell(0, DEEP) * effort + 1) / 2;
            }
            return isDue(area) ? effort : 0;
        }

        private void addTask(int area, int effort, boolean isDeep) {
            int task = tasks.append();
            tasks.write(task, TASK_AREA, area);
            tasks.write(task, TASK_EFFORT, effort);
            tasks.write(task, TASK_DEEP, bit(isDeep));
        }

        private void giveTasks() {
            for (int task = 0; task < tasks.size(); task++) {
                int resident = leastLoaded(hasTwinAhead(task) ? tasks.cell(task - 1, TASK_RESIDENT) : NONE);
                tasks.write(task, TASK_RESIDENT, resident);
                residents.increase(resident, OPEN_EFFORT, tasks.cell(task, TASK_EFFORT));
            }
        }

        /** Whether this is a second deep task: with the same effort and area, it stands right behind the first one. */
        private boolean hasTwinAhead(int task) {
            return task > 0 && tasks.cell(task - 1, TASK_AREA) == tasks.cell(task, TASK_AREA);
        }

        /** Of all who are not away, the one who gets the next task; the barred one only if nobody else is here. */
        private int leastLoaded(int barred) {
            int least = NONE;
            for (int resident = 0; resident < residents.size(); resident++) {
                boolean isFree = resident != barred && !isAway(resident);
                if (isFree && (least == NONE || goesAhead(resident, least))) {
                    least = resident;
                }
            }
            return least == NONE ? barred : least;
        }

        private boolean goesAhead(int resident, int other) {
            int mine = loadOf(resident) * residents.cell(other, WEIGHT);
            int others = loadOf(other) * residents.cell(resident, WEIGHT);
            if (mine != others) {
                return mine < others;
            }
            return residents.cell(resident, DEBT) > residents.cell(other, DEBT);
        }

        boolean isOpen(int task) {
            return tasks.has(task) && tasks.cell(task, TASK_DONE) == 0;
        }

        boolean isOpenTaskOf(int task, int resident) {
            return isOpen(task) && tasks.cell(task, TASK_RESIDENT) == resident;
        }

        int countOpenTasks() {
            int open = 0;
            for (int task = 0; task < tasks.size(); task++) {
                open += bit(isOpen(task));
            }
            return open;
        }

        int countOpenDeepTasks() {
            int open = 0;
            for (int task = 0; task < tasks.size(); task++) {
                open += bit(isOpen(task) && tasks.cell(task, TASK_DEEP) == 1);
            }
            return open;
        }

        int countOpenTasksOf(int resident) {
            int open = 0;
            for (int task = 0; task < tasks.size(); task++) {
                open += bit(isOpenTaskOf(task, resident));
            }
            return open;
        }

        int firstOpenTaskOf(int resident) {
            for (int task = 0; task < tasks.size(); task++) {
                if (isOpenTaskOf(task, resident)) {
                    return task;
                }
            }
            return NONE;
        }

        int finish(int task) {
            int effort = tasks.cell(task, TASK_EFFORT);
            int resident = tasks.cell(task, TASK_RESIDENT);
            tasks.write(task, TASK_DONE, 1);
            tasksDone++;
            residents.increase(resident, OPEN_EFFORT, -effort);
            residents.increase(resident, WORK, effort);
            if (!isTwinOpen(task)) {
                clean(tasks.cell(task, TASK_AREA));
            }
            dropSwapsWith(task);
            return effort;
        }

        private boolean isTwinOpen(int task) {
            if (tasks.cell(task, TASK_DEEP) == 0) {
                return false;
            }
            return isOpen(hasTwinAhead(task) ? task - 1 : task + 1);
        }

        void finishFromTo(int first, int last) {
            for (int task = first; task <= last && task < tasks.size(); task++) {
                if (isOpen(task)) {
                    finish(task);
                }
            }
        }

        void finishOpenTasks() {
            finishFromTo(0, tasks.size() - 1);
        }

        int payDebt(int resident, int area) {
            int paid = Math.min(areas.cell(area, AREA_EFFORT), residents.cell(resident, DEBT));
            residents.increase(resident, DEBT, -paid);
            residents.increase(resident, WORK, paid);
            clean(area);
            return residents.cell(resident, DEBT);
        }

        int endWeek() {
            int skipped = countOpenTasks();
            for (int task = 0; task < tasks.size(); task++) {
                if (isOpen(task)) {
                    skip(task);
                }
            }
            tasks.clear();
            swaps.clear();
            decayPoints();
            growDirt();
            week++;
            isPlanned = false;
            return skipped;
        }

        private void skip(int task) {
            int effort = tasks.cell(task, TASK_EFFORT);
            int resident = tasks.cell(task, TASK_RESIDENT);
            tasksSkipped++;
            residents.increase(resident, OPEN_EFFORT, -effort);
            residents.increase(resident, DEBT, effort);
            residents.increase(resident, POINTS, settings.cell(0, PENALTY));
        }

        private void decayPoints() {
            int kept = 100 - settings.cell(0, DECAY);
            for (int resident = 0; resident < residents.size(); resident++) {
                residents.write(resident, POINTS, residents.cell(resident, POINTS) * kept / 100);
            }
        }

        private void growDirt() {
            for (int area = 0; area < areas.size(); area++) {
                int dirt = areas.cell(area, DIRT) + areas.cell(area, GROWTH);
                areas.write(area, DIRT, Math.min(MOST_DIRT, dirt));
            }
        }

        boolean canExchange(int one, int other) {
            return isOpen(one) && isOpen(other)
                && tasks.cell(one, TASK_RESIDENT) != tasks.cell(other, TASK_RESIDENT);
        }

        boolean isProposed(int one, int other) {
            for (int swap = 0; swap < swaps.size(); swap++) {
                if (swaps.cell(swap, SWAP_ONE) == one && swaps.cell(swap, SWAP_OTHER) == other) {
                    return true;
                }
            }
            return false;
        }

        int addSwap(int one, int other) {
            int swap = swaps.append();
            swaps.write(swap, SWAP_ONE, one);
            swaps.write(swap, SWAP_OTHER, other);
            return swaps.size();
        }

        int declineSwap(int swap) {
            swaps.remove(swap);
            return swaps.size();
        }

        int acceptSwap(int swap) {
            int one = swaps.cell(swap, SWAP_ONE);
            int other = swaps.cell(swap, SWAP_OTHER);
            int residentOfOne = tasks.cell(one, TASK_RESIDENT);
            int residentOfOther = tasks.cell(other, TASK_RESIDENT);
            int gain = gainOfExchange(one, other);
            tasks.write(one, TASK_RESIDENT, residentOfOther);
            tasks.write(other, TASK_RESIDENT, residentOfOne);
            residents.increase(residentOfOne, OPEN_EFFORT, gain);
            residents.increase(residentOfOther, OPEN_EFFORT, -gain);
            dropSwapsWith(one);
            dropSwapsWith(other);
            return swaps.size();
        }

        /** By how much the load of the first task's resident becomes greater, and that of the other one less. */
        private int gainOfExchange(int one, int other) {
            return tasks.cell(other, TASK_EFFORT) - tasks.cell(one, TASK_EFFORT);
        }

        private void dropSwapsWith(int task) {
            for (int swap = swaps.size() - 1; swap >= 0; swap--) {
                if (swaps.cell(swap, SWAP_ONE) == task || swaps.cell(swap, SWAP_OTHER) == task) {
                    swaps.remove(swap);
                }
            }
        }

        int rateOf(int resident, int amount) {
            int weight = residents.cell(resident, WEIGHT);
            return weight > 0 ? 1000 * amount / weight : 0;
        }

        int spread() {
            return spreadOf(false, NONE, NONE, 0);
        }

        int plannedSpread() {
            return spreadOf(true, NONE, NONE, 0);
        }

        int spreadIfExchanged(int one, int other) {
            int gaining = tasks.cell(one, TASK_RESIDENT);
            int losing = tasks.cell(other, TASK_RESIDENT);
            return spreadOf(true, gaining, losing, gainOfExchange(one, other));
        }

        private int spreadOf(boolean withOpenTasks, int gaining, int losing, int gain) {
            int least = 0;
            int greatest = 0;
            for (int resident = 0; resident < residents.size(); resident++) {
                int amount = withOpenTasks ? loadOf(resident) : residents.cell(resident, WORK);
                int change = resident == gaining ? gain : resident == losing ? -gain : 0;
                int rate = rateOf(resident, amount + change);
                least = resident == 0 ? rate : Math.min(least, rate);
                greatest = Math.max(greatest, rate);
            }
            return greatest - least;
        }
    }

    /** The states that can be undone, the oldest first. */
    private static final class History {
        static final int MOST_STATES = 6;

        private final House[] states;
        private int kept;

        History() {
            states = new House[MOST_STATES];
            for (int i = 0; i < states.length; i++) {
                states[i] = new House();
            }
        }

        void keep(House house) {
            if (kept >= MOST_STATES) {
                dropOldest();
            }
            House state = stateAt(kept);
            if (state != null) {
                state.copyFrom(house);
                kept++;
            }
        }

        void restore(House house) {
            House latest = stateAt(kept - 1);
            if (latest != null) {
                house.copyFrom(latest);
                kept--;
            }
        }

        private House stateAt(int place) {
            return place >= 0 && place < states.length ? states[place] : null;
        }

        /** The oldest one moves to the end, where its rows are used again. */
        private void dropOldest() {
            for (int place = 1; place < states.length; place++) {
                House newer = states[place];
                states[place] = states[place - 1];
                states[place - 1] = newer;
            }
            kept--;
        }
    }

    /** A text from which numbers of tasks are read. */
    private static final class Pad {
        static final int FIRST = 0, LAST = 1, PART_COLUMNS = 2;
        /** A part takes at least two characters, with its comma. */
        static final int MOST_PARTS = MOST_CHARACTERS / 2;
        static final int MOST_PACKED = 8;
        static final int END_OF_TEXT = 0;

        private final char[] characters;
        private int length;
        private final Table parts;

        Pad() {
            characters = new char[MOST_CHARACTERS];
            parts = new Table(MOST_PARTS, PART_COLUMNS);
        }

        /** How many characters the number gives, 0 if it does not stand for characters. */
        static int countCharacters(long packed) {
            long rest = packed;
            int many = 0;
            for (int i = 0; i < MOST_PACKED && rest != 0; i++) {
                int code = (int) (rest & 255);
                if (!isIn(code, 33, 126)) {
                    return 0;
                }
                many++;
                rest >>>= 8;
            }
            return many;
        }

        void append(long packed, int many) {
            for (int behind = many - 1; behind >= 0; behind--) {
                if (length >= 0 && length < characters.length) {
                    characters[length] = (char) (packed >>> (8 * behind) & 255);
                    length++;
                }
            }
        }

        private int characterAt(int index) {
            return index >= 0 && index < length && index < characters.length ? characters[index] : END_OF_TEXT;
        }

        private boolean isDigitAt(int index) {
            return isIn(characterAt(index), '0', '9');
        }

        /** Reads the text into the parts; returns its fault, or NONE. */
        int read() {
            parts.clear();
            int start = 0;
            for (int i = 0; i <= MOST_CHARACTERS; i++) {
                int end = endOfNumber(start);
                if (end == start) {
                    return start;
                }
                int first = numberIn(start, end);
                int last = first;
                if (characterAt(end) == '-') {
                    int second = end + 1;
                    end = endOfNumber(second);
                    last = numberIn(second, end);
                    if (end == second || last < first) {
                        return second;
                    }
                }
                addPart(first, last);
                if (end == length) {
                    return NONE;
                }
                if (characterAt(end) != ',') {
                    return end;
                }
                start = end + 1;
            }
            return start;
        }

        private void addPart(int first, int last) {
            int part = parts.append();
            parts.write(part, FIRST, first);
            parts.write(part, LAST, last);
        }

        /** The index behind the number that starts here, the same index if none does. */
        private int endOfNumber(int start) {
            if (!isDigitAt(start)) {
                return start;
            }
            boolean canGoOn = characterAt(start) != '0';
            return canGoOn && isDigitAt(start + 1) ? start + 2 : start + 1;
        }

        private int numberIn(int start, int end) {
            int number = 0;
            for (int index = start; index < end; index++) {
                number = 10 * number + characterAt(index) - '0';
            }
            return number;
        }
    }
}
