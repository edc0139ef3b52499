import java.util.ArrayList;
import java.util.List;

/**
 * What holds for every run of calls: a refused call changes nothing, a merge leaves nothing of the one
 * before it, an adopted tree is like one that was put, and objects know nothing of one another. The
 * answers that are due come from a run that does without: without the refused calls, the merge before,
 * the adopting, the other objects. The seeds are fixed.
 */
public final class RunsTest {
    private static final Check CHECK = new Check();
    private static final int RUNS = 400;
    private static final int[] NO_TREES = {-1, 3, 4, Integer.MIN_VALUE, Integer.MAX_VALUE};
    private static final int[] NO_PATHS = {-1, 64, -64, Integer.MIN_VALUE, Integer.MAX_VALUE};

    public static void main(String[] args) {
        CHECK.sentence("false, changing nothing: whatever the calls before and behind it",
                RunsTest::refusedCallsAmongOthers);
        CHECK.sentence("false, changing nothing: the tree has 8 files, or no file there", RunsTest::refusedByTheTree);
        CHECK.sentence("false, changing nothing: the RESULT cannot be adopted", RunsTest::refusedByTheResult);
        CHECK.sentence("the RESULT and all that is told of the latest merge become this one's",
                RunsTest::secondMerges);
        CHECK.sentence("Tree 0, 1 or 2 becomes what the RESULT is", RunsTest::callsAfterAdopt);
        CHECK.sentence("A new object: empty trees, style 0, no merge yet, also beside others",
                RunsTest::objectsBesideOthers);
        CHECK.end();
    }

    private static ScriptWriter written(int seed) {
        ScriptWriter writer = new ScriptWriter(seed);
        writer.write();
        return writer;
    }

    private static Run.Call refused(String name, int... arguments) {
        return new Run.Call(name, arguments, 0);
    }

    /** Asks all questions, on as many objects with the same calls as keep each within its 512 calls. */
    private static void askAll(String what, int threshold, List<Run.Call> played, List<Run.Call> questions) {
        int room = Run.MOST_CALLS - played.size();
        CHECK.due(what + ": the calls leave room", room > 0, true);
        for (int from = 0; from < questions.size() && room > 0; from += room) {
            RenameMerge program = new RenameMerge(threshold);
            List<Run.Call> calls = new ArrayList<>(played);
            calls.addAll(questions.subList(from, Math.min(questions.size(), from + room)));
            for (int i = 0; i < calls.size(); i++) {
                play(what, i, program, calls.get(i));
            }
        }
    }

    private static void play(String what, int i, RenameMerge program, Run.Call call) {
        CHECK.due(what + ": call " + i + ", " + call, Run.answer(program, call), call.answer());
    }

    private static void refusedCallsAmongOthers() {
        List<Run.Call> wrong = wrongCalls();
        for (int seed = 0; seed < RUNS; seed++) {
            Run run = written(seed).run;
            List<Run.Call> played = new ArrayList<>();
            boolean hasMerged = false;
            for (Run.Call call : run.script) {
                played.add(wrong.get((seed + played.size()) % wrong.size()));
                if (!hasMerged) {
                    played.add(refused("adopt", seed % 3));
                }
                played.add(call);
                hasMerged |= call.name().equals("merge");
            }
            played.addAll(wrong);
            if (played.size() < Run.MOST_CALLS) {
                askAll("seed " + seed + " with refused calls", run.threshold, played, run.questions());
            }
        }
    }

    private static List<Run.Call> wrongCalls() {
        List<Run.Call> list = new ArrayList<>();
        for (int tree : NO_TREES) {
            list.add(refused("put", tree, 9, 0x21, 0));
            list.add(refused("drop", tree, 9));
            list.add(refused("copy", tree, 0));
            list.add(refused("copy", 0, tree));
            list.add(refused("adopt", tree));
            list.add(refused("style", tree));
        }
        for (int path : NO_PATHS) {
            list.add(refused("put", 1, path, 0x21, 1));
            list.add(refused("drop", 2, path));
        }
        return list;
    }

    private static void refusedByTheTree() {
        for (int tree = 0; tree <= 2; tree++) {
            Run run = new Run(50);
            for (int i = 0; i < 8; i++) {
                run.call("put", tree, 9 * i, 0x321 + i, 0);
            }
            run.call("merge");
            List<Run.Call> played = new ArrayList<>(run.script);
            for (int path : new int[] {1, 8, 62}) {
                played.add(refused("put", tree, path, 0x21, 0));
                played.add(refused("drop", tree, path));
            }
            askAll("a full tree " + tree, 50, played, run.questions());
            int before = run.script.size();
            run.call("drop", tree, 63);
            run.call("put", tree, 62, 0x54, 1);
            run.call("merge");
            played.addAll(run.script.subList(before, run.script.size()));
            askAll("a full tree " + tree + ", then a change", 50, played, run.questions());
        }
    }

    private static void refusedByTheResult() {
        Run many = new Run(50);
        for (int i = 0; i < 8; i++) {
            many.call("put", 1, i, 0x21, 0);
        }
        many.call("put", 2, 63, 0x21, 0);
        many.call("merge");
        askAfterAdopting("nine files", many);
        Run longText = new Run(50);
        longText.call("put", 1, 5, 0x321, 0);
        longText.call("put", 2, 5, 0x654, 0);
        longText.call("merge");
        askAfterAdopting("nine lines", longText);
    }

    private static void askAfterAdopting(String what, Run run) {
        List<Run.Call> played = new ArrayList<>(run.script);
        for (int tree = 0; tree <= 2; tree++) {
            played.add(refused("adopt", tree));
        }
        askAll(what, run.threshold, played, run.questions());
        int before = run.script.size();
        run.call("copy", 2, 1);
        run.call("merge");
        played.addAll(run.script.subList(before, run.script.size()));
        played.add(new Run.Call("adopt", new int[] {0}, 1));
        run.call("copy", 2, 0);
        askAll(what + ", then few", run.threshold, played, run.questions());
    }

    /** A first run's trees are taken away again, then comes the second run, as if on a new object. */
    private static void secondMerges() {
        int asked = 0;
        for (int seed = 0; seed < RUNS; seed++) {
            Run first = written(seed).run;
            Run second = written(seed + RUNS).run;
            if (first.threshold == second.threshold) {
                for (int tree = 0; tree <= 2; tree++) {
                    dropAll(first, tree);
                }
                first.call("style", 0);
                List<Run.Call> played = new ArrayList<>(first.script);
                played.addAll(second.script);
                if (played.size() < Run.MOST_CALLS) {
                    askAll("seed " + seed + " and one more", first.threshold, played, second.questions());
                    asked++;
                }
            }
        }
        CHECK.due("second merges were reached", asked > 30, true);
    }

    private static void dropAll(Run run, int tree) {
        for (int path = 0; path < 64; path++) {
            if (run.model.call("kind", tree, path) != 0) {
                run.call("drop", tree, path);
            }
        }
    }

    /** What the program adopts is put into the tree, file by file, in the run that tells what is due. */
    private static void callsAfterAdopt() {
        int asked = 0;
        for (int seed = 0; seed < RUNS; seed++) {
            ScriptWriter writer = written(seed);
            if (canBePut(writer.run)) {
                List<Run.Call> played = new ArrayList<>(writer.run.script);
                played.add(new Run.Call("adopt", new int[] {seed % 3}, 1));
                putResult(writer, seed % 3);
                int before = writer.run.script.size();
                writer.changeAndMerge();
                played.addAll(writer.run.script.subList(before, writer.run.script.size()));
                askAll("seed " + seed + " with adopt", writer.run.threshold, played, writer.run.questions());
                asked++;
            }
        }
        CHECK.due("adopted trees were reached", asked > 100, true);
    }

    /** A mark is no digit: only a RESULT without marks can be put as it is. */
    private static boolean canBePut(Run run) {
        for (int path = 0; path < 64; path++) {
            long length = run.model.call("length", 3, path);
            for (int i = 0; i < length; i++) {
                if (length > 8 || run.model.call("line", 3, path, i) > 15) {
                    return false;
                }
            }
        }
        return run.model.call("size", 3) <= 8;
    }

    private static void putResult(ScriptWriter writer, int tree) {
        dropAll(writer.run, tree);
        for (int path = 0; path < 64; path++) {
            int kind = (int) writer.run.model.call("kind", 3, path);
            if (kind != 0) {
                writer.run.call("put", tree, path, writer.asText(3, path), kind - 1);
            }
        }
    }

    private static void objectsBesideOthers() {
        for (int seed = 0; seed < RUNS; seed += 4) {
            List<RenameMerge> objects = new ArrayList<>();
            List<List<Run.Call>> calls = new ArrayList<>();
            int longest = 0;
            for (int i = 0; i < 4; i++) {
                Run run = written(seed + i).run;
                objects.add(new RenameMerge(run.threshold));
                calls.add(run.script);
                List<Run.Call> told = run.questions();
                told.removeIf(call -> call.answer() == 0 || call.answer() == RenameMerge.NONE);
                run.script.addAll(told);
                longest = Math.max(longest, run.script.size());
            }
            for (int at = 0; at < Math.min(longest, Run.MOST_CALLS); at++) {
                for (int i = 0; i < 4; i++) {
                    if (at < calls.get(i).size()) {
                        play("object " + (seed + i) + " of four", at, objects.get(i), calls.get(i).get(at));
                    }
                }
            }
        }
    }
}
