import java.util.Arrays;
import java.util.List;

/**
 * Lays the program's answers beside the model's in many runs of calls. A run is a script of calls that
 * change something, played to both; then all that can be asked is asked, on as many objects with the
 * same script as keep each object within its 512 calls. The seed is fixed: every time the same runs.
 */
public final class ModelTest {
    private static final int RUNS = 6000;
    private static final Check CHECK = new Check();

    public static void main(String[] args) {
        int[] seen = new int[10];
        for (int seed = 0; seed < RUNS; seed++) {
            ScriptWriter writer = new ScriptWriter(seed);
            writer.write();
            List<Run.Call> questions = writer.run.questions();
            writer.addQuestions(questions);
            playAndAsk(seed, writer.run, questions);
            note(writer.run.model, seen);
        }
        System.out.println("conflicts by code, new places, split ones: " + Arrays.toString(seen));
        for (int i = 0; i < seen.length; i++) {
            CHECK.due("the runs reach what is counted at " + i, seen[i] > 20, true);
        }
        CHECK.end();
    }

    private static void playAndAsk(int seed, Run run, List<Run.Call> questions) {
        int room = Run.MOST_CALLS - run.script.size();
        CHECK.due("run " + seed + ": the script leaves room", room > 0, true);
        for (int from = 0; from < questions.size(); from += Math.max(room, 1)) {
            RenameMerge program = new RenameMerge(run.threshold);
            play(seed, run, program, run.script);
            play(seed, run, program, questions.subList(from, Math.min(questions.size(), from + room)));
        }
    }

    private static void play(int seed, Run run, RenameMerge program, List<Run.Call> calls) {
        for (int i = 0; i < calls.size(); i++) {
            Run.Call call = calls.get(i);
            long got = Run.answer(program, call);
            if (got != call.answer()) {
                CHECK.due("run " + seed + ", threshold " + run.threshold + ", " + run.script + ": " + i + " " + call,
                        got, call.answer());
            }
        }
        CHECK.due("run " + seed, calls.isEmpty(), false);
    }

    /** Counts what the run's last merge came to, so that runs which reach nothing are noticed. */
    private static void note(Model model, int[] seen) {
        for (int path = 0; path < 64; path++) {
            for (int code = 0; code < 8; code++) {
                seen[code] += (int) model.call("conflict", path) >> code & 1;
            }
        }
        for (int directory = 0; directory < 8; directory++) {
            for (int side = 1; side <= 2; side++) {
                long place = model.call("newPlace", side, directory);
                seen[8] += place >= 0 ? 1 : 0;
                seen[9] += place == RenameMerge.SPLIT ? 1 : 0;
            }
        }
    }
}
