import java.util.ArrayList;
import java.util.Arrays;
import java.util.List;
import java.util.Random;

/**
 * Lays the program's answers beside the model's in many runs of calls. A run is a script of calls that
 * change something, played to both; then all that can be asked is asked, on as many objects with the
 * same script as keep each object within its 512 calls. The seed is fixed: every time the same runs.
 */
public final class ModelTest {
    private static final int RUNS = 6000;
    private static final int MOST_CALLS = 512;
    private static final int[] THRESHOLDS = {50, 50, 50, 1, 20, 34, 60, 75, 99, 100, 0, 101, -7};
    private static final int[] ODD = {-1, 64, 8, 3, 4, Integer.MIN_VALUE, Integer.MAX_VALUE};

    record Call(String name, int[] arguments, long answer) {
        @Override
        public String toString() {
            return name + Arrays.toString(arguments);
        }
    }

    private final Check check;
    private final Random random;
    private final int threshold;
    private final Model model;
    private final List<Call> script = new ArrayList<>();
    private final int alphabet;

    private ModelTest(Check check, long seed) {
        this.check = check;
        this.random = new Random(seed);
        this.threshold = THRESHOLDS[random.nextInt(THRESHOLDS.length)];
        this.model = new Model(threshold);
        this.alphabet = new int[] {2, 3, 5, 15}[random.nextInt(4)];
    }

    public static void main(String[] args) {
        Check check = new Check();
        int[] seen = new int[10];
        for (int run = 0; run < RUNS; run++) {
            ModelTest test = new ModelTest(check, run);
            test.writeScript();
            test.playAndAsk(run);
            test.note(seen);
        }
        System.out.println("conflicts by code, new places, split ones: " + Arrays.toString(seen));
        for (int i = 0; i < seen.length; i++) {
            check.due("the runs reach what is counted at " + i, seen[i] > 20, true);
        }
        check.end();
    }

    private long call(String name, int... arguments) {
        long answer = model.call(name, arguments);
        script.add(new Call(name, arguments, answer));
        return answer;
    }

    // scripts

    private void writeScript() {
        int[] directories = {random.nextInt(8), random.nextInt(8), random.nextInt(8)};
        int files = 1 + random.nextInt(8);
        for (int i = 0; i < files; i++) {
            int path = 8 * directories[random.nextInt(3)] + random.nextInt(8);
            call("put", 0, path, text(), random.nextInt(12) == 0 ? 1 : 0);
        }
        call("copy", 0, 1);
        call("copy", 0, 2);
        int rounds = 1 + random.nextInt(3);
        for (int round = 0; round < rounds; round++) {
            int changes = random.nextInt(9);
            for (int i = 0; i < changes; i++) {
                change(directories);
            }
            call("style", random.nextInt(8) == 0 ? odd() : random.nextInt(3));
            call("merge");
            if (random.nextInt(3) == 0) {
                call("adopt", random.nextInt(8) == 0 ? odd() : random.nextInt(3));
            }
        }
        if (random.nextInt(4) == 0) {
            change(directories);
        }
        if (random.nextInt(20) == 0) {
            call("copy", random.nextInt(3), odd());
            call("copy", odd(), random.nextInt(3));
            call("drop", odd(), random.nextInt(64));
            call("drop", random.nextInt(3), odd());
            call("put", odd(), random.nextInt(64), text(), 0);
            call("put", random.nextInt(3), odd(), text(), 0);
        }
    }

    private void change(int[] directories) {
        int side = 1 + random.nextInt(2);
        int path = somePath(side);
        switch (random.nextInt(10)) {
            case 0, 1 -> moveDirectory(side, path / 8, random.nextInt(8));
            case 2, 3 -> moveFile(side, path, random.nextInt(64));
            case 4 -> moveFile(side, path, 8 * directories[random.nextInt(3)] + random.nextInt(8));
            case 5, 6 -> call("put", side, path, edited(side, path), random.nextInt(12) == 0 ? 1 : 0);
            case 7 -> call("put", side, 8 * directories[random.nextInt(3)] + random.nextInt(8), text(), 0);
            case 8 -> call("drop", side, path);
            default -> moveFile(side, path, somePath(3 - side));
        }
    }

    private int somePath(int tree) {
        List<Integer> paths = new ArrayList<>();
        for (int path = 0; path < 64; path++) {
            if (model.call("kind", tree, path) != 0) {
                paths.add(path);
            }
        }
        return paths.isEmpty() ? random.nextInt(64) : paths.get(random.nextInt(paths.size()));
    }

    private void moveDirectory(int side, int from, int to) {
        for (int name = 0; name < 8; name++) {
            boolean astray = random.nextInt(6) == 0;
            moveFile(side, 8 * from + name, 8 * (astray ? random.nextInt(8) : to) + name);
        }
    }

    private void moveFile(int side, int from, int to) {
        int kind = (int) model.call("kind", side, from);
        if (kind != 0) {
            int text = random.nextInt(3) == 0 ? edited(side, from) : asText(side, from);
            call("drop", side, from);
            call("put", side, to, text, kind - 1);
        }
    }

    private int text() {
        int text = 0;
        int lines = random.nextInt(9);
        for (int i = 0; i < lines; i++) {
            text = text << 4 | (random.nextInt(9) == 0 ? 0 : 1 + random.nextInt(alphabet));
        }
        return text;
    }

    private int asText(int tree, int path) {
        int text = 0;
        for (int i = (int) model.call("length", tree, path) - 1; i >= 0; i--) {
            text = text << 4 | (int) model.call("line", tree, path, i) & 15;
        }
        return text;
    }

    private int edited(int tree, int path) {
        int text = asText(tree, path);
        int edits = 1 + random.nextInt(2);
        for (int i = 0; i < edits; i++) {
            int at = 4 * random.nextInt(8);
            int below = text & ((1 << at) - 1);
            int above = text >>> at;
            int line = 1 + random.nextInt(alphabet);
            text = switch (random.nextInt(3)) {
                case 0 -> ((above & ~15 | line) << at) | below;
                case 1 -> ((above << 4 | line) << at) | below;
                default -> ((above >>> 4) << at) | below;
            };
        }
        return text;
    }

    private int odd() {
        return ODD[random.nextInt(ODD.length)];
    }

    // questions

    private List<Call> questions() {
        List<Call> list = new ArrayList<>();
        for (int path = -1; path <= 64; path++) {
            ask(list, "conflict", path);
            for (int tree = -1; tree <= 4; tree++) {
                ask(list, "kind", tree, path);
                ask(list, "length", tree, path);
                ask(list, "staged", tree, path);
                ask(list, "renamed", tree, path);
                ask(list, "stands", tree, path);
            }
        }
        for (int tree = -1; tree <= 4; tree++) {
            ask(list, "size", tree);
            for (int directory = -1; directory <= 8; directory++) {
                ask(list, "newPlace", tree, directory);
            }
        }
        askLines(list);
        for (int i = 0; i < 30; i++) {
            ask(list, "score", 1 + random.nextInt(2), somePath(0), somePath(1 + random.nextInt(2)));
            ask(list, "score", odd(), somePath(0), somePath(1));
            ask(list, "line", odd(), odd(), odd());
            ask(list, "stagedLine", random.nextInt(3), somePath(3), odd());
        }
        return list;
    }

    private void askLines(List<Call> list) {
        for (int path = 0; path < 64; path++) {
            for (int tree = 0; tree <= 3; tree++) {
                if (model.call("kind", tree, path) != 0) {
                    for (int i = -1; i <= model.call("length", tree, path); i++) {
                        ask(list, "line", tree, path, i);
                    }
                }
                for (int i = -1; model.call("staged", tree, path) >= i && i <= 76; i++) {
                    ask(list, "stagedLine", tree, path, i);
                }
            }
        }
    }

    private void ask(List<Call> list, String name, int... arguments) {
        list.add(new Call(name, arguments, model.call(name, arguments)));
    }

    private void playAndAsk(int run) {
        List<Call> questions = questions();
        int room = MOST_CALLS - script.size();
        check.due("run " + run + ": the script leaves room", room > 0, true);
        for (int from = 0; from < questions.size(); from += Math.max(room, 1)) {
            RenameMerge program = new RenameMerge(threshold);
            play(run, program, script);
            play(run, program, questions.subList(from, Math.min(questions.size(), from + room)));
        }
    }

    private void play(int run, RenameMerge program, List<Call> calls) {
        for (int i = 0; i < calls.size(); i++) {
            Call call = calls.get(i);
            long got = answer(program, call.name, call.arguments);
            if (got != call.answer) {
                check.due("run " + run + ", threshold " + threshold + ", " + script + ": " + i + " " + call,
                        got, call.answer);
            }
        }
        check.due("run " + run, calls.isEmpty(), false);
    }

    private static long answer(RenameMerge x, String name, int[] a) {
        return switch (name) {
            case "put" -> x.put(a[0], a[1], a[2], a[3] != 0) ? 1 : 0;
            case "drop" -> x.drop(a[0], a[1]) ? 1 : 0;
            case "copy" -> x.copy(a[0], a[1]) ? 1 : 0;
            case "adopt" -> x.adopt(a[0]) ? 1 : 0;
            case "style" -> x.style(a[0]) ? 1 : 0;
            case "merge" -> x.merge();
            case "size" -> x.size(a[0]);
            case "kind" -> x.kind(a[0], a[1]);
            case "length" -> x.length(a[0], a[1]);
            case "line" -> x.line(a[0], a[1], a[2]);
            case "conflict" -> x.conflict(a[0]);
            case "staged" -> x.staged(a[0], a[1]);
            case "stagedLine" -> x.stagedLine(a[0], a[1], a[2]);
            case "renamed" -> x.renamed(a[0], a[1]);
            case "newPlace" -> x.newPlace(a[0], a[1]);
            case "stands" -> x.stands(a[0], a[1]);
            case "score" -> x.score(a[0], a[1], a[2]);
            default -> throw new IllegalArgumentException(name);
        };
    }

    /** Counts what the run's last merge came to, so that runs which reach nothing are noticed. */
    private void note(int[] seen) {
        for (int path = 0; path < 64; path++) {
            for (int code = 0; code < 8; code++) {
                seen[code] += (int) model.call("conflict", path) >> code & 1;
            }
        }
        for (int directory = 0; directory < 8; directory++) {
            for (int side = 1; side <= 2; side++) {
                long place = model.call("newPlace", side, directory);
                seen[8] += place >= 0 ? 1 : 0;
                seen[9] += place == RenameMerge.SPLIT ? 1 : 0;
            }
        }
    }
}
