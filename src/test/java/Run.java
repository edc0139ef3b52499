import java.util.ArrayList;
import java.util.Arrays;
import java.util.List;

/**
 * A run of calls on one object, played to the model as it is written: each call has the answer that is
 * due. Behind it all that can be asked may be asked.
 */
final class Run {
    static final int MOST_CALLS = 512;

    record Call(String name, int[] arguments, long answer) {
        @Override
        public String toString() {
            return name + Arrays.toString(arguments);
        }
    }

    final int threshold;
    final Model model;
    final List<Call> script = new ArrayList<>();

    Run(int threshold) {
        this.threshold = threshold;
        this.model = new Model(threshold);
    }

    long call(String name, int... arguments) {
        Call call = due(name, arguments);
        script.add(call);
        return call.answer;
    }

    /** A call with the answer of the model as it is now. */
    Call due(String name, int... arguments) {
        return new Call(name, arguments, model.call(name, arguments));
    }

    /** What the object answers to all questions, some of them about what is not there. */
    List<Call> questions() {
        List<Call> list = new ArrayList<>();
        for (int path = -1; path <= 64; path++) {
            list.add(due("conflict", path));
            for (int tree = -1; tree <= 4; tree++) {
                for (String name : List.of("kind", "length", "staged", "renamed", "stands")) {
                    list.add(due(name, tree, path));
                }
                askLines(list, tree, path);
            }
        }
        for (int tree = -1; tree <= 4; tree++) {
            list.add(due("size", tree));
            for (int directory = -1; directory <= 8; directory++) {
                list.add(due("newPlace", tree, directory));
            }
        }
        return list;
    }

    private void askLines(List<Call> list, int tree, int path) {
        for (int i = -1; model.call("length", tree, path) >= i; i++) {
            list.add(due("line", tree, path, i));
        }
        for (int i = -1; model.call("staged", tree, path) >= i; i++) {
            list.add(due("stagedLine", tree, path, i));
        }
    }

    static long answer(RenameMerge x, Call call) {
        int[] a = call.arguments;
        return switch (call.name) {
            case "put" -> x.put(a[0], a[1], a[2], a[3] != 0) ? 1 : 0;
            case "drop" -> x.drop(a[0], a[1]) ? 1 : 0;
            case "copy" -> x.copy(a[0], a[1]) ? 1 : 0;
            case "adopt" -> x.adopt(a[0]) ? 1 : 0;
            case "style" -> x.style(a[0]) ? 1 : 0;
            case "merge" -> x.merge();
            case "size" -> x.size(a[0]);
            case "kind" -> x.kind(a[0], a[1]);
            case "length" -> x.length(a[0], a[1]);
            case "line" -> x.line(a[0], a[1], a[2]);
            case "conflict" -> x.conflict(a[0]);
            case "staged" -> x.staged(a[0], a[1]);
            case "stagedLine" -> x.stagedLine(a[0], a[1], a[2]);
            case "renamed" -> x.renamed(a[0], a[1]);
            case "newPlace" -> x.newPlace(a[0], a[1]);
            case "stands" -> x.stands(a[0], a[1]);
            case "score" -> x.score(a[0], a[1], a[2]);
            default -> throw new IllegalArgumentException(call.name);
        };
    }
}
