import java.util.ArrayList;
import java.util.Comparator;
import java.util.List;
import java.util.function.ToIntFunction;
import java.util.regex.Matcher;
import java.util.regex.Pattern;
import java.util.stream.IntStream;

/**
 * The document once more, as plainly as the Java library allows: nothing is kept that can be counted,
 * states are copied whole, texts are read by patterns. Runs of calls are answered by both and compared.
 */
final class PlainRota {
    private static final int NO_SUCH = -1, BAD_VALUE = -2, BAD_TEXT = -3, TOO_MANY = -4, NOT_POSSIBLE = -5, NONE = -6;
    private static final String NUMBER = "(?:0|[1-9][0-9]?)";
    private static final String PART = NUMBER + "(?:-" + NUMBER + ")?";
    private static final Pattern LIST = Pattern.compile(PART + "(?:," + PART + ")*");
    private static final Pattern RANGE = Pattern.compile("(?:^|,)(" + NUMBER + ")-(" + NUMBER + ")");

    private static final class Resident {
        int weight, from = 1, to = 0, work, debt, points;
    }

    private static final class Area {
        int effort, period, growth, dirt, cleaned;
    }

    private static final class Task {
        int area, effort, resident;
        boolean deep, second, done;
    }

    private record Swap(int one, int other) {
    }

    private static final class State {
        List<Resident> residents = new ArrayList<>();
        List<Area> areas = new ArrayList<>();
        List<Task> tasks = new ArrayList<>();
        List<Swap> swaps = new ArrayList<>();
        int[] settings = {20, 25, 3, 250};
        int week, done, skipped;
        boolean planned;

        State copy() {
            State copy = new State();
            for (Resident from : residents) {
                Resident to = new Resident();
                to.weight = from.weight;
                to.from = from.from;
                to.to = from.to;
                to.work = from.work;
                to.debt = from.debt;
                to.points = from.points;
                copy.residents.add(to);
            }
            for (Area from : areas) {
                Area to = new Area();
                to.effort = from.effort;
                to.period = from.period;
                to.growth = from.growth;
                to.dirt = from.dirt;
                to.cleaned = from.cleaned;
                copy.areas.add(to);
            }
            for (Task from : tasks) {
                Task to = new Task();
                to.area = from.area;
                to.effort = from.effort;
                to.resident = from.resident;
                to.deep = from.deep;
                to.second = from.second;
                to.done = from.done;
                copy.tasks.add(to);
            }
            copy.swaps.addAll(swaps);
            copy.settings = settings.clone();
            copy.week = week;
            copy.done = done;
            copy.skipped = skipped;
            copy.planned = planned;
            return copy;
        }

        boolean away(int resident) {
            return residents.get(resident).from <= week && week <= residents.get(resident).to;
        }

        List<Task> openTasks() {
            return tasks.stream().filter(task -> !task.done).toList();
        }

        int load(int resident) {
            return residents.get(resident).work
                + openTasks().stream().filter(task -> task.resident == resident).mapToInt(task -> task.effort).sum();
        }

        int spread(ToIntFunction<Integer> amount) {
            int[] rates = IntStream.range(0, residents.size())
                .map(i -> 1000 * amount.applyAsInt(i) / residents.get(i).weight).sorted().toArray();
            return rates.length == 0 ? 0 : rates[rates.length - 1] - rates[0];
        }

        int workSpread() {
            return spread(i -> residents.get(i).work);
        }

        int loadSpread() {
            return spread(this::load);
        }

        void plan() {
            planned = true;
            List<Integer> here = IntStream.range(0, residents.size()).filter(i -> !away(i)).boxed().toList();
            if (here.isEmpty()) {
                return;
            }
            List<Task> fresh = new ArrayList<>();
            for (int a = 0; a < areas.size(); a++) {
                Area area = areas.get(a);
                if (area.dirt >= settings[3]) {
                    int half = (settings[2] * area.effort + 1) / 2;
                    fresh.add(freshTask(a, half, true, false));
                    fresh.add(freshTask(a, half, true, true));
                } else if (week % area.period == a % area.period) {
                    fresh.add(freshTask(a, area.effort, false, false));
                }
            }
            fresh.sort(Comparator.comparingInt((Task task) -> -task.effort).thenComparingInt(task -> task.area)
                .thenComparing(task -> task.second));
            for (Task task : fresh) {
                give(task, here);
                tasks.add(task);
            }
        }

        private static Task freshTask(int area, int effort, boolean deep, boolean second) {
            Task task = new Task();
            task.area = area;
            task.effort = effort;
            task.deep = deep;
            task.second = second;
            return task;
        }

        private void give(Task task, List<Integer> here) {
            List<Integer> able = new ArrayList<>(here);
            if (task.second && here.size() > 1) {
                able.removeIf(i -> tasks.stream().anyMatch(one -> one.deep && one.area == task.area && one.resident == i));
            }
            Comparator<Integer> byLoad = (a, b) ->
                Integer.compare(load(a) * residents.get(b).weight, load(b) * residents.get(a).weight);
            Comparator<Integer> byDebt = Comparator.comparingInt(i -> -residents.get(i).debt);
            task.resident = able.stream().min(byLoad.thenComparing(byDebt).thenComparing(Comparator.naturalOrder())).get();
        }

        int done(int number) {
            Task task = tasks.get(number);
            task.done = true;
            done++;
            residents.get(task.resident).work += task.effort;
            if (openTasks().stream().noneMatch(other -> task.deep && other.area == task.area)) {
                clean(task.area);
            }
            drop(number);
            return task.effort;
        }

        void clean(int area) {
            areas.get(area).dirt = 0;
            areas.get(area).cleaned++;
        }

        void drop(int task) {
            swaps.removeIf(swap -> swap.one == task || swap.other == task);
        }

        int end() {
            List<Task> open = openTasks();
            for (Task task : open) {
                residents.get(task.resident).debt += task.effort;
                residents.get(task.resident).points += settings[0];
            }
            skipped += open.size();
            tasks.clear();
            swaps.clear();
            residents.forEach(resident -> resident.points = resident.points * (100 - settings[1]) / 100);
            areas.forEach(area -> area.dirt = Math.min(1000, area.dirt + area.growth));
            week++;
            planned = false;
            return open.size();
        }

        void exchange(int one, int other) {
            int resident = tasks.get(one).resident;
            tasks.get(one).resident = tasks.get(other).resident;
            tasks.get(other).resident = resident;
        }
    }

    private State now = new State();
    private final List<State> past = new ArrayList<>();
    private String pad = "";

    private State change() {
        past.add(now.copy());
        if (past.size() > 6) {
            past.remove(0);
        }
        return now;
    }

    private static boolean in(int value, int least, int greatest) {
        return least <= value && value <= greatest;
    }

    private static boolean has(List<?> list, int index) {
        return in(index, 0, list.size() - 1);
    }

    int resident(int weight) {
        if (!in(weight, 1, 10)) {
            return BAD_VALUE;
        }
        if (now.residents.size() == 8) {
            return TOO_MANY;
        }
        Resident resident = new Resident();
        resident.weight = weight;
        change().residents.add(resident);
        return now.residents.size() - 1;
    }

    int weigh(int resident, int weight) {
        if (!has(now.residents, resident)) {
            return NO_SUCH;
        }
        if (!in(weight, 1, 10)) {
            return BAD_VALUE;
        }
        Resident changed = change().residents.get(resident);
        int previous = changed.weight;
        changed.weight = weight;
        return previous;
    }

    int away(int resident, int from, int to) {
        if (!has(now.residents, resident)) {
            return NO_SUCH;
        }
        if (!in(from, 0, 999) || !in(to, from, 999)) {
            return BAD_VALUE;
        }
        Resident changed = change().residents.get(resident);
        changed.from = from;
        changed.to = to;
        return now.away(resident) ? 1 : 0;
    }

    int area(int effort, int period, int growth) {
        if (!in(effort, 1, 20) || !in(period, 1, 4) || !in(growth, 0, 200)) {
            return BAD_VALUE;
        }
        if (now.areas.size() == 6) {
            return TOO_MANY;
        }
        Area area = new Area();
        area.effort = effort;
        area.period = period;
        area.growth = growth;
        change().areas.add(area);
        return now.areas.size() - 1;
    }

    int set(int setting, int value) {
        int[][] ranges = {{0, 100}, {0, 100}, {2, 6}, {1, 1000}};
        if (!in(setting, 0, 3) || !in(value, ranges[setting][0], ranges[setting][1])) {
            return BAD_VALUE;
        }
        int previous = now.settings[setting];
        change().settings[setting] = value;
        return previous;
    }

    int plan() {
        if (now.planned) {
            return NOT_POSSIBLE;
        }
        change().plan();
        return now.tasks.size();
    }

    int done(int task) {
        if (!has(now.tasks, task)) {
            return NO_SUCH;
        }
        return now.tasks.get(task).done ? NOT_POSSIBLE : change().done(task);
    }

    int extra(int resident, int area) {
        if (!has(now.residents, resident) || !has(now.areas, area)) {
            return NO_SUCH;
        }
        if (now.residents.get(resident).debt == 0 || now.away(resident)) {
            return NOT_POSSIBLE;
        }
        Resident cleaner = change().residents.get(resident);
        int before = cleaner.debt;
        cleaner.debt = Math.max(0, before - now.areas.get(area).effort);
        cleaner.work += before - cleaner.debt;
        now.clean(area);
        return cleaner.debt;
    }

    int end() {
        return !now.planned || now.week == 999 ? NOT_POSSIBLE : change().end();
    }

    int propose(int one, int other) {
        if (!has(now.tasks, one) || !has(now.tasks, other)) {
            return NO_SUCH;
        }
        Task first = now.tasks.get(one);
        Task second = now.tasks.get(other);
        if (first.done || second.done || first.resident == second.resident || now.swaps.contains(new Swap(one, other))) {
            return NOT_POSSIBLE;
        }
        if (now.swaps.size() == 6) {
            return TOO_MANY;
        }
        change().swaps.add(new Swap(one, other));
        return now.swaps.size();
    }

    int answer(int swap, int yes) {
        if (!has(now.swaps, swap)) {
            return NO_SUCH;
        }
        if (!in(yes, 0, 1)) {
            return BAD_VALUE;
        }
        Swap decided = change().swaps.remove(swap);
        if (yes == 1) {
            now.exchange(decided.one, decided.other);
            now.drop(decided.one);
            now.drop(decided.other);
        }
        return now.swaps.size();
    }

    int about(int resident, int what) {
        if (!has(now.residents, resident)) {
            return NO_SUCH;
        }
        Resident one = now.residents.get(resident);
        int[] open = IntStream.range(0, now.tasks.size())
            .filter(i -> !now.tasks.get(i).done && now.tasks.get(i).resident == resident).toArray();
        return pick(what, one.weight, one.work, one.debt, one.points, now.load(resident), 1000 * one.work / one.weight,
            open.length, open.length == 0 ? NONE : open[0], now.away(resident) ? 1 : 0);
    }

    private static int pick(int what, int... numbers) {
        return in(what, 0, numbers.length - 1) ? numbers[what] : BAD_VALUE;
    }

    int room(int area, int what) {
        if (!has(now.areas, area)) {
            return NO_SUCH;
        }
        Area one = now.areas.get(area);
        return pick(what, one.effort, one.period, one.growth, one.dirt, one.dirt >= now.settings[3] ? 1 : 0,
            now.week % one.period == area % one.period ? 1 : 0, one.cleaned);
    }

    int task(int task, int what) {
        if (!has(now.tasks, task)) {
            return NO_SUCH;
        }
        Task one = now.tasks.get(task);
        return pick(what, one.area, one.resident, one.effort, one.done ? 1 : 0, one.deep ? 1 : 0);
    }

    int swap(int swap, int what) {
        if (!has(now.swaps, swap)) {
            return NO_SUCH;
        }
        Swap one = now.swaps.get(swap);
        return pick(what, one.one, one.other, now.tasks.get(one.one).resident, now.tasks.get(one.other).resident);
    }

    int count(int what) {
        return pick(what, now.week, now.residents.size(), now.areas.size(), now.tasks.size(), now.openTasks().size(),
            now.done, now.skipped, now.swaps.size(), now.planned ? 1 : 0, now.workSpread(), now.loadSpread(), pad.length(),
            past.size(), now.settings[0], now.settings[1], now.settings[2], now.settings[3]);
    }

    int forecast(int weeks, int what) {
        if (!in(weeks, 0, 60) || !in(what, 0, 3)) {
            return BAD_VALUE;
        }
        State then = now.copy();
        int tasks = 0;
        int deep = 0;
        for (int i = 0; i < weeks && then.week != 999; i++) {
            if (!then.planned) {
                then.plan();
            }
            for (int task = 0; task < then.tasks.size(); task++) {
                if (!then.tasks.get(task).done) {
                    then.done(task);
                    tasks++;
                    deep += then.tasks.get(task).deep ? 1 : 0;
                }
            }
            then.end();
        }
        return pick(what, then.workSpread(), tasks, deep, then.areas.stream().mapToInt(area -> area.dirt).max().orElse(0));
    }

    int fairer(int what) {
        if (!in(what, 0, 2)) {
            return BAD_VALUE;
        }
        int[] best = {NONE, NONE, now.loadSpread()};
        for (int one = 0; one < now.tasks.size(); one++) {
            for (int other = one + 1; other < now.tasks.size(); other++) {
                State then = now.copy();
                then.exchange(one, other);
                boolean open = !then.tasks.get(one).done && !then.tasks.get(other).done;
                if (open && then.loadSpread() < best[2]) {
                    best = new int[] {one, other, then.loadSpread()};
                }
            }
        }
        return best[0] == NONE ? NONE : best[what];
    }

    int put(long characters) {
        StringBuilder text = new StringBuilder();
        for (int shift = 56; shift >= 0; shift -= 8) {
            text.append((char) (characters >>> shift & 255));
        }
        String more = text.toString().replaceAll("^\u0000+", "");
        if (more.isEmpty() || !more.chars().allMatch(code -> in(code, 33, 126))) {
            return BAD_VALUE;
        }
        if (pad.length() + more.length() > 60) {
            return TOO_MANY;
        }
        pad += more;
        return pad.length();
    }

    int wipe() {
        int length = pad.length();
        pad = "";
        return length;
    }

    int fault() {
        int length = 0;
        while (length < pad.length() && canBegin(pad.substring(0, length + 1))) {
            length++;
        }
        boolean whole = length == pad.length() && LIST.matcher(pad).matches();
        Matcher ranges = RANGE.matcher(pad.substring(0, length));
        while (ranges.find()) {
            if (Integer.parseInt(ranges.group(2)) < Integer.parseInt(ranges.group(1))) {
                return ranges.start(2);
            }
        }
        return whole ? NONE : length;
    }

    /** Whether a list begins so. */
    private static boolean canBegin(String text) {
        Matcher matcher = LIST.matcher(text);
        return matcher.matches() || matcher.hitEnd();
    }

    int load() {
        if (fault() != NONE) {
            return BAD_TEXT;
        }
        int before = now.done;
        change();
        for (String part : pad.split(",")) {
            String[] numbers = part.split("-");
            for (int task = Integer.parseInt(numbers[0]); task <= Integer.parseInt(numbers[numbers.length - 1]); task++) {
                if (has(now.tasks, task) && !now.tasks.get(task).done) {
                    now.done(task);
                }
            }
        }
        pad = "";
        return now.done - before;
    }

    int undo() {
        if (past.isEmpty()) {
            return NOT_POSSIBLE;
        }
        now = past.remove(past.size() - 1);
        return past.size();
    }
}
