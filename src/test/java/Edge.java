import java.util.List;

/** Checks of a boundary; they bear the sentence of the document that names it. */
final class Edge {
    interface CallWith {
        Run.Call of(int value);
    }

    /** What happens behind a refused call, to see that it left nothing that shows up later. */
    private static final Run[] TAILS = {
        Run.of(CleaningRota::load),
        Run.of(Run.put(","), Run.put("0"), CleaningRota::load),
        Run.of(CleaningRota::wipe, Run.put("0-99"), CleaningRota::load, CleaningRota::end, CleaningRota::plan),
        Run.of(CleaningRota::plan, r -> r.done(0), r -> r.done(3), r -> r.propose(1, 4), CleaningRota::end),
        Run.of(r -> r.answer(0, 1), r -> r.answer(0, 0), CleaningRota::undo, CleaningRota::end, CleaningRota::plan),
        Run.of(CleaningRota::end, r -> r.extra(0, 0), r -> r.extra(1, 1), CleaningRota::plan, CleaningRota::undo),
        Run.of(r -> r.resident(5), r -> r.area(5, 2, 50), r -> r.set(0, 7), r -> r.weigh(0, 9), r -> r.away(1, 0, 9)),
    };
    private static final int MOST_STATES = 6;

    private static String sentence = "";

    private Edge() {
    }

    /** The checks that follow belong to these words. */
    static void of(String section, String words) {
        Document.quote(section, words);
        sentence = section + ", \"" + words + "\"";
    }

    static void is(String what, int got, int due) {
        Check.is(sentence + ": " + what, got, due);
    }

    /** The answers to the same question about several things: of 0, of 1 and so on. */
    static void are(String what, Run run, CallWith question, int... due) {
        for (int i = 0; i < due.length; i++) {
            is(what + " of " + i, run.ask(question.of(i)), due[i]);
        }
    }

    /** The last values that are allowed, and the first that are not. */
    static void range(String what, Run before, CallWith call, int least, int greatest, int error) {
        allowed(what, before, call, least, greatest);
        refusedOutside(what, before, call, least, greatest, error);
    }

    static void allowed(String what, Run before, CallWith call, int... values) {
        for (int value : values) {
            int answer = before.ask(call.of(value));
            Check.holds(sentence + ": " + what + " of " + value + " answered " + answer,
                answer >= 0 || answer == CleaningRota.NONE);
        }
    }

    static void refusedOutside(String what, Run before, CallWith call, int least, int greatest, int error) {
        for (int value : new int[] {least - 1, greatest + 1, Integer.MIN_VALUE, Integer.MAX_VALUE}) {
            refused(what + " of " + value, before, call.of(value), error);
        }
    }

    /** The call has this error and leaves everything as it was; the last call ahead of it is a change. */
    static void refused(String what, Run before, Run.Call call, int error) {
        refusedWithoutChange(what, before, call, error);
        Run undone = before.then(call, CleaningRota::undo);
        Check.holds(sentence + ": " + what + ": there is a change ahead of it", undone.answer() >= 0);
        same(what + ", then undo() takes back the change ahead of it", apartFromStates(undone),
            apartFromStates(before.withoutLast()));
    }

    /** The same, where nothing that can be undone is ahead of it. */
    static void refusedWithoutChange(String what, Run before, Run.Call call, int error) {
        Run after = before.then(call);
        is(what, after.answer(), error);
        same(what + " changes nothing", after.everything(), before.everything());
        for (int times = 1; times <= MOST_STATES + 1; times++) {
            sameAnswers(what + ", then undo()", after.times(times, CleaningRota::undo), before.times(times, CleaningRota::undo));
        }
        for (Run tail : TAILS) {
            sameAnswers(what + ", then others", after.then(tail), before.then(tail));
        }
    }

    private static void sameAnswers(String what, Run one, Run other) {
        is(what, one.answer(), other.answer());
        same(what, one.everything(), other.everything());
    }

    /** With a full history, a change that was taken back leaves a state less than there was. */
    private static List<String> apartFromStates(Run run) {
        return run.everything().stream().filter(line -> !line.startsWith("count(12) ")).toList();
    }

    private static void same(String what, List<String> got, List<String> due) {
        Check.holds(sentence + ": " + what, got.equals(due));
        for (int i = 0; i < Math.min(got.size(), due.size()); i++) {
            if (!got.get(i).equals(due.get(i))) {
                System.out.println("    " + got.get(i) + ", due is " + due.get(i));
                return;
            }
        }
    }

    static void sameState(String what, Run one, Run other) {
        same(what, one.everything(), other.everything());
    }

    static void sameButForStates(String what, Run one, Run other) {
        same(what, apartFromStates(one), apartFromStates(other));
    }

    static void sameButForPad(String what, Run one, Run other) {
        same(what, apartFromPad(one), apartFromPad(other));
    }

    private static List<String> apartFromPad(Run run) {
        return run.everything().stream().filter(line -> !line.startsWith("count(11) ") && !line.startsWith("fault() ")).toList();
    }
}
