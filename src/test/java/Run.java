import java.util.ArrayList;
import java.util.List;

/**
 * A run of calls on a new object. It is played anew for each question, so that asking for everything
 * takes no object beyond the 512 calls that are promised.
 */
final class Run {
    interface Call {
        int on(CleaningRota rota);
    }

    static final int MOST_CALLS = 512;
    private static final int[] FORECASTS = {0, 1, 2, 7, 60};

    private final List<Call> calls;

    private Run(List<Call> calls) {
        this.calls = calls;
    }

    static Run of(Call... calls) {
        return new Run(List.of(calls));
    }

    static Run weights(int... weights) {
        Run run = of();
        for (int weight : weights) {
            run = run.then(rota -> rota.resident(weight));
        }
        return run;
    }

    Run then(Call... more) {
        List<Call> longer = new ArrayList<>(calls);
        longer.addAll(List.of(more));
        return new Run(longer);
    }

    Run then(Run more) {
        return then(more.calls.toArray(new Call[0]));
    }

    Run times(int times, Call... more) {
        Run run = this;
        for (int i = 0; i < times; i++) {
            run = run.then(more);
        }
        return run;
    }

    Run withoutLast() {
        return new Run(calls.subList(0, calls.size() - 1));
    }

    int size() {
        return calls.size();
    }

    /** Areas that are due in each week and never get dirty. */
    Run efforts(int... efforts) {
        Run run = this;
        for (int effort : efforts) {
            run = run.then(rota -> rota.area(effort, 1, 0));
        }
        return run;
    }

    Run skipWeeks(int weeks) {
        return times(weeks, CleaningRota::plan, CleaningRota::end);
    }

    Run doWeeks(int weeks) {
        return times(weeks, CleaningRota::plan, put("0-11"), CleaningRota::load, CleaningRota::end);
    }

    Run doTasks(int... tasks) {
        Run run = this;
        for (int task : tasks) {
            run = run.then(rota -> rota.done(task));
        }
        return run;
    }

    Run pad(String text) {
        Run run = this;
        for (int start = 0; start < text.length(); start += 8) {
            run = run.then(put(text.substring(start, Math.min(text.length(), start + 8))));
        }
        return run;
    }

    static Call put(String text) {
        return rota -> rota.put(Houses.packed(text));
    }

    CleaningRota play() {
        CleaningRota rota = new CleaningRota();
        for (Call call : calls) {
            call.on(rota);
        }
        return rota;
    }

    /** What the last call answers. */
    int answer() {
        return calls.get(calls.size() - 1).on(withoutLast().play());
    }

    int ask(Call question) {
        return question.on(play());
    }

    /** All that can be asked behind the run, a line for each question. */
    List<String> everything() {
        CleaningRota rota = play();
        List<String> lines = new ArrayList<>();
        for (int what = 0; what <= 16; what++) {
            lines.add("count(" + what + ") = " + rota.count(what));
        }
        askAll(lines, "about", rota.count(1), 9, rota::about);
        askAll(lines, "room", rota.count(2), 7, rota::room);
        askAll(lines, "task", rota.count(3), 5, rota::task);
        askAll(lines, "swap", rota.count(7), 4, rota::swap);
        for (int weeks : FORECASTS) {
            for (int what = 0; what <= 3; what++) {
                lines.add("forecast(" + weeks + ", " + what + ") = " + rota.forecast(weeks, what));
            }
        }
        for (int what = 0; what <= 2; what++) {
            lines.add("fairer(" + what + ") = " + rota.fairer(what));
        }
        lines.add("fault() = " + rota.fault());
        int sizes = 4;
        Check.holds("the run keeps to 512 calls", calls.size() + lines.size() + sizes <= MOST_CALLS);
        return lines;
    }

    private interface Question {
        int of(int number, int what);
    }

    private static void askAll(List<String> lines, String name, int many, int numbers, Question question) {
        for (int number = 0; number < many; number++) {
            for (int what = 0; what < numbers; what++) {
                lines.add(name + "(" + number + ", " + what + ") = " + question.of(number, what));
            }
        }
        lines.add(name + "(" + many + ", 0) = " + question.of(many, 0));
    }

    /**
     * Week 1 of a house: area 1 is dirty, resident 2 is away, two have debts and points, one of five tasks is done,
     * the pad has a list, and the last change is a swap that was proposed.
     */
    static Run busy() {
        return weights(3, 7, 2)
            .then(r -> r.area(11, 1, 60), r -> r.area(9, 2, 200), r -> r.area(4, 1, 10), r -> r.area(2, 1, 0))
            .then(r -> r.set(CleaningRota.DIRTY, 200))
            .then(CleaningRota::plan, r -> r.done(0), CleaningRota::end)
            .then(r -> r.away(2, 1, 3), CleaningRota::plan, r -> r.done(2))
            .pad("1,2-4")
            .then(r -> r.propose(3, 1));
    }

    /** Eight residents, six areas with twelve deep tasks, six swaps and a pad of 60 characters: nothing more fits. */
    static Run full() {
        return weights(1, 2, 3, 4, 5, 6, 7, 8)
            .times(6, r -> r.area(20, 1, 200))
            .then(r -> r.set(CleaningRota.DIRTY, 1))
            .skipWeeks(1)
            .then(CleaningRota::plan)
            .pad("0,".repeat(29) + "11")
            .then(r -> r.propose(0, 1), r -> r.propose(1, 0), r -> r.propose(0, 2))
            .then(r -> r.propose(2, 0), r -> r.propose(0, 3), r -> r.propose(3, 0));
    }
}
