import java.util.ArrayList;
import java.util.List;
import java.util.Random;

/**
 * Writes runs by a seed, always the same one by the same seed: trees that are alike, then rounds of
 * moved, changed, added and dropped files and of moved directories, each round with a merge.
 */
final class ScriptWriter {
    private static final int[] THRESHOLDS = {50, 50, 50, 1, 20, 34, 60, 75, 99, 100, 0, 101, -7};
    private static final int[] ODD = {-1, 64, 8, 3, 4, Integer.MIN_VALUE, Integer.MAX_VALUE};

    final Run run;
    private final Random random;
    private final int alphabet;
    private final int[] directories;

    ScriptWriter(long seed) {
        this.random = new Random(seed);
        this.run = new Run(THRESHOLDS[random.nextInt(THRESHOLDS.length)]);
        this.alphabet = new int[] {2, 3, 5, 15}[random.nextInt(4)];
        this.directories = new int[] {random.nextInt(8), random.nextInt(8), random.nextInt(8)};
    }

    void write() {
        int files = 1 + random.nextInt(8);
        for (int i = 0; i < files; i++) {
            int path = 8 * directories[random.nextInt(3)] + random.nextInt(8);
            run.call("put", 0, path, text(), random.nextInt(12) == 0 ? 1 : 0);
        }
        run.call("copy", 0, 1);
        run.call("copy", 0, 2);
        int rounds = 1 + random.nextInt(3);
        for (int round = 0; round < rounds; round++) {
            changeAndMerge();
            if (random.nextInt(3) == 0) {
                run.call("adopt", random.nextInt(8) == 0 ? odd() : random.nextInt(3));
            }
        }
        if (random.nextInt(4) == 0) {
            change();
        }
        if (random.nextInt(20) == 0) {
            run.call("copy", random.nextInt(3), odd());
            run.call("copy", odd(), random.nextInt(3));
            run.call("drop", odd(), random.nextInt(64));
            run.call("drop", random.nextInt(3), odd());
            run.call("put", odd(), random.nextInt(64), text(), 0);
            run.call("put", random.nextInt(3), odd(), text(), 0);
        }
    }

    void changeAndMerge() {
        int changes = random.nextInt(9);
        for (int i = 0; i < changes; i++) {
            change();
        }
        run.call("style", random.nextInt(8) == 0 ? odd() : random.nextInt(3));
        run.call("merge");
    }

    private void change() {
        int side = 1 + random.nextInt(2);
        int path = somePath(side);
        switch (random.nextInt(10)) {
            case 0, 1 -> moveDirectory(side, path / 8, random.nextInt(8));
            case 2, 3 -> moveFile(side, path, random.nextInt(64));
            case 4 -> moveFile(side, path, 8 * directories[random.nextInt(3)] + random.nextInt(8));
            case 5, 6 -> run.call("put", side, path, edited(side, path), random.nextInt(12) == 0 ? 1 : 0);
            case 7 -> run.call("put", side, 8 * directories[random.nextInt(3)] + random.nextInt(8), text(), 0);
            case 8 -> run.call("drop", side, path);
            default -> moveFile(side, path, somePath(3 - side));
        }
    }

    private int somePath(int tree) {
        List<Integer> paths = new ArrayList<>();
        for (int path = 0; path < 64; path++) {
            if (run.model.call("kind", tree, path) != 0) {
                paths.add(path);
            }
        }
        return paths.isEmpty() ? random.nextInt(64) : paths.get(random.nextInt(paths.size()));
    }

    private void moveDirectory(int side, int from, int to) {
        for (int name = 0; name < 8; name++) {
            boolean astray = random.nextInt(6) == 0;
            moveFile(side, 8 * from + name, 8 * (astray ? random.nextInt(8) : to) + name);
        }
    }

    private void moveFile(int side, int from, int to) {
        int kind = (int) run.model.call("kind", side, from);
        if (kind != 0) {
            int text = random.nextInt(3) == 0 ? edited(side, from) : asText(side, from);
            run.call("drop", side, from);
            run.call("put", side, to, text, kind - 1);
        }
    }

    private int text() {
        int text = 0;
        int lines = random.nextInt(9);
        for (int i = 0; i < lines; i++) {
            text = text << 4 | (random.nextInt(9) == 0 ? 0 : 1 + random.nextInt(alphabet));
        }
        return text;
    }

    int asText(int tree, int path) {
        int text = 0;
        for (int i = (int) run.model.call("length", tree, path) - 1; i >= 0; i--) {
            text = text << 4 | (int) run.model.call("line", tree, path, i) & 15;
        }
        return text;
    }

    private int edited(int tree, int path) {
        int text = asText(tree, path);
        int edits = 1 + random.nextInt(2);
        for (int i = 0; i < edits; i++) {
            int at = 4 * random.nextInt(8);
            int below = text & ((1 << at) - 1);
            int above = text >>> at;
            int line = 1 + random.nextInt(alphabet);
            text = switch (random.nextInt(3)) {
                case 0 -> ((above & ~15 | line) << at) | below;
                case 1 -> ((above << 4 | line) << at) | below;
                default -> ((above >>> 4) << at) | below;
            };
        }
        return text;
    }

    private int odd() {
        return ODD[random.nextInt(ODD.length)];
    }

    /** Questions for scores and for lines that are hardly ever there. */
    void addQuestions(List<Run.Call> list) {
        for (int i = 0; i < 30; i++) {
            list.add(run.due("score", 1 + random.nextInt(2), somePath(0), somePath(1 + random.nextInt(2))));
            list.add(run.due("score", odd(), somePath(0), somePath(1)));
            list.add(run.due("line", odd(), odd(), odd()));
            list.add(run.due("stagedLine", random.nextInt(3), somePath(3), odd()));
        }
    }
}
