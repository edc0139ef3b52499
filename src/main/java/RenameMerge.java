import java.util.Arrays;

/**
 * Merges two changed trees of files over the tree that both came from: it finds files that were
 * renamed and directories that were renamed, brings the versions of each file together, merges
 * their lines, and says what could not be merged.
 */
public final class RenameMerge {

    /** No such thing. */
    public static final int NONE = -1;
    /** A directory that is split. */
    public static final int SPLIT = -2;

    private static final int PATHS = 64;
    private static final int DIRECTORIES = 8;
    private static final int NAMES = 8;

    private static final int BASE = 0;
    private static final int OURS = 1;
    private static final int THEIRS = 2;
    private static final int RESULT = 3;
    private static final int TREES = 4;
    private static final int VERSIONS = 3;

    private static final int MOST_FILES = 8;
    private static final int MOST_LINES = 8;
    /** Two texts, each of at most 36 lines because it was merged from three of 8, and four marks. */
    private static final int LONGEST = 76;
    private static final int[] NO_LINES = {};

    private static final int OPEN = 16;
    private static final int OLD = 17;
    private static final int MIDDLE = 18;
    private static final int CLOSE = 19;

    private static final int SHORT_STYLE = 0;
    private static final int TRIMMED_STYLE = 2;

    private static final int USUAL_THRESHOLD = 50;
    private static final int FULL_SCORE = 100;
    private static final int MOST_SCORED_PAIRS = 20;

    private static final int CONTENT = 1;
    private static final int ADDED = 2;
    private static final int DROPPED = 4;
    private static final int KINDS = 8;
    private static final int GONE = 16;
    private static final int TWICE = 32;
    private static final int ONTO = 64;
    private static final int DIRECTORY = 128;

    private final Tree[] trees = new Tree[TREES];
    private final Merger merger = new Merger();
    private final int threshold;
    private int chosenStyle = SHORT_STYLE;
    private boolean hasMerged = false;

    public RenameMerge(int threshold) {
        this.threshold = threshold >= 1 && threshold <= FULL_SCORE ? threshold : USUAL_THRESHOLD;
        for (int i = 0; i < TREES; i++) {
            trees[i] = new Tree();
        }
    }

    public boolean put(int tree, int path, int text, boolean link) {
        if (!isInput(tree) || !isPath(path)) {
            return false;
        }
        Tree changed = trees[tree];
        if (changed.fileAt(path) == null && changed.countFiles() >= MOST_FILES) {
            return false;
        }
        changed.lay(path, new TreeFile(link, linesOf(text)));
        return true;
    }

    public boolean drop(int tree, int path) {
        if (!isInput(tree) || trees[tree].fileAt(path) == null) {
            return false;
        }
        trees[tree].lay(path, null);
        return true;
    }

    public boolean copy(int from, int to) {
        if (!isInput(from) || !isInput(to)) {
            return false;
        }
        trees[to].become(trees[from]);
        return true;
    }

    public boolean adopt(int tree) {
        Tree result = trees[RESULT];
        if (!isInput(tree) || !hasMerged
                || result.countFiles() > MOST_FILES || result.longestText() > MOST_LINES) {
            return false;
        }
        trees[tree].become(result);
        return true;
    }

    public boolean style(int s) {
        if (s < SHORT_STYLE || s > TRIMMED_STYLE) {
            return false;
        }
        chosenStyle = s;
        return true;
    }

    public int merge() {
        merger.begin(trees[BASE], trees[OURS], trees[THEIRS], threshold);
        for (int path = 0; path < PATHS; path++) {
            merger.carryRename(path, chosenStyle);
        }
        for (int path = 0; path < PATHS; path++) {
            trees[RESULT].lay(path, merger.settle(path, chosenStyle));
        }
        hasMerged = true;
        return merger.countConflictPaths();
    }

    public int size(int tree) {
        return isTree(tree) ? trees[tree].countFiles() : NONE;
    }

    public int kind(int tree, int path) {
        TreeFile file = findFile(tree, path);
        if (file == null) {
            return 0;
        }
        return file.link ? 2 : 1;
    }

    public int length(int tree, int path) {
        TreeFile file = findFile(tree, path);
        return file == null ? NONE : file.lines.length;
    }

    public int line(int tree, int path, int i) {
        TreeFile file = findFile(tree, path);
        return file == null ? 0 : file.lineAt(i);
    }

    public int conflict(int path) {
        return merger.codesAt(path);
    }

    public int staged(int version, int path) {
        TreeFile file = merger.stagedFile(version, path);
        return file == null ? NONE : file.lines.length;
    }

    public int stagedLine(int version, int path, int i) {
        TreeFile file = merger.stagedFile(version, path);
        return file == null ? 0 : file.lineAt(i);
    }

    public int renamed(int side, int path) {
        Side told = merger.sideOf(side);
        return told == null ? NONE : told.targetOf(path);
    }

    public int newPlace(int side, int directory) {
        Side told = merger.sideOf(side);
        return told == null ? NONE : told.placeOf(directory);
    }

    public int stands(int side, int path) {
        Side told = merger.sideOf(side);
        return told == null ? NONE : told.standOf(path);
    }

    public int score(int side, int p, int q) {
        if (side != OURS && side != THEIRS) {
            return NONE;
        }
        return TreeFile.likeness(trees[BASE].fileAt(p), trees[side].fileAt(q));
    }

    private TreeFile findFile(int tree, int path) {
        return isTree(tree) ? trees[tree].fileAt(path) : null;
    }

    private static boolean isTree(int tree) {
        return tree >= BASE && tree <= RESULT;
    }

    private static boolean isInput(int tree) {
        return tree >= BASE && tree <= THEIRS;
    }

    private static boolean isPath(int path) {
        return path >= 0 && path < PATHS;
    }

    private static int directoryOf(int path) {
        return path / NAMES;
    }

    private static int nameOf(int path) {
        return path % NAMES;
    }

    private static int[] linesOf(int text) {
        int[] lines = new int[MOST_LINES];
        int count = 0;
        for (int i = 0; i < MOST_LINES; i++) {
            int digit = (text >>> (4 * i)) & 15;
            if (digit != 0) {
                lines[count] = digit;
                count++;
            }
        }
        return Arrays.copyOf(lines, count);
    }

    /** A file. It never changes, so that trees, versions and the result may share it. */
    private static final class TreeFile {
        final boolean link;
        final int[] lines;

        TreeFile(boolean link, int[] lines) {
            this.link = link;
            this.lines = lines;
        }

        int lineAt(int i) {
            return i >= 0 && i < lines.length ? lines[i] : 0;
        }

        /** Whether both are none, or both are there and equal. */
        static boolean same(TreeFile one, TreeFile two) {
            if (one == null || two == null) {
                return one == null && two == null;
            }
            if (one.link != two.link || one.lines.length != two.lines.length) {
                return false;
            }
            for (int i = 0; i < one.lines.length; i++) {
                if (one.lineAt(i) != two.lineAt(i)) {
                    return false;
                }
            }
            return true;
        }

        /** The score of two plain files; NONE, which no threshold lets pass, for others. */
        static int likeness(TreeFile one, TreeFile two) {
            if (one == null || two == null || one.link || two.link) {
                return NONE;
            }
            int longer = Math.max(one.lines.length, two.lines.length);
            return longer == 0 ? 0 : FULL_SCORE * one.countShared(two) / longer;
        }

        /** Each line here takes one equal line there that is still free: the lesser count of each. */
        private int countShared(TreeFile other) {
            int most = Math.min(other.lines.length, MOST_LINES);
            int taken = 0;
            int shared = 0;
            for (int i = 0; i < lines.length; i++) {
                for (int j = 0; j < most; j++) {
                    if ((taken & (1 << j)) == 0 && lines[i] == other.lines[j]) {
                        taken |= 1 << j;
                        shared++;
                        break;
                    }
                }
            }
            return shared;
        }
    }

    /** At most one file at each path. */
    private static final class Tree {
        private final TreeFile[] files = new TreeFile[PATHS];

        TreeFile fileAt(int path) {
            return isPath(path) ? files[path] : null;
        }

        boolean has(int path) {
            return fileAt(path) != null;
        }

        /** Null takes away what is there. */
        void lay(int path, TreeFile file) {
            if (isPath(path)) {
                files[path] = file;
            }
        }

        void move(int from, int to) {
            TreeFile file = fileAt(from);
            lay(from, null);
            lay(to, file);
        }

        void become(Tree other) {
            for (int path = 0; path < PATHS; path++) {
                files[path] = other.files[path];
            }
        }

        int countFiles() {
            int count = 0;
            for (int path = 0; path < PATHS; path++) {
                if (files[path] != null) {
                    count++;
                }
            }
            return count;
        }

        int longestText() {
            int longest = 0;
            for (int path = 0; path < PATHS; path++) {
                TreeFile file = files[path];
                if (file != null) {
                    longest = Math.max(longest, file.lines.length);
                }
            }
            return longest;
        }

        boolean hasFileIn(int directory) {
            for (int name = 0; name < NAMES; name++) {
                if (has(directory * NAMES + name)) {
                    return true;
                }
            }
            return false;
        }
    }

    /** What a merge finds of one side: its renames, the new places, and where its files stand. */
    private static final class Side {
        private final int[] targets = new int[PATHS];
        private final boolean[] sourceLeft = new boolean[PATHS];
        private final boolean[] targetLeft = new boolean[PATHS];
        private final int[] places = new int[DIRECTORIES];
        private final int[] wanted = new int[PATHS];
        private final int[] standing = new int[PATHS];

        Side() {
            Arrays.fill(targets, NONE);
            Arrays.fill(places, NONE);
            Arrays.fill(standing, NONE);
        }

        int targetOf(int path) {
            return isPath(path) ? targets[path] : NONE;
        }

        int placeOf(int directory) {
            return directory >= 0 && directory < DIRECTORIES ? places[directory] : NONE;
        }

        int standOf(int path) {
            return isPath(path) ? standing[path] : NONE;
        }

        void findRenames(Tree base, Tree tree, int threshold) {
            Arrays.fill(targets, NONE);
            for (int path = 0; path < PATHS; path++) {
                sourceLeft[path] = base.has(path) && !tree.has(path);
                targetLeft[path] = tree.has(path) && !base.has(path);
            }
            pairEqualFiles(base, tree);
            pairOnlyNames(base, tree, (FULL_SCORE + 1 + threshold) / 2);
            pairByScore(base, tree, threshold);
        }

        private void pair(int source, int target) {
            targets[source] = target;
            sourceLeft[source] = false;
            targetLeft[target] = false;
        }

        private void pairEqualFiles(Tree base, Tree tree) {
            for (int target = 0; target < PATHS; target++) {
                if (targetLeft[target]) {
                    int source = findEqualSource(base, tree.fileAt(target), nameOf(target));
                    if (source != NONE) {
                        pair(source, target);
                    }
                }
            }
        }

        private int findEqualSource(Tree base, TreeFile file, int name) {
            int least = NONE;
            for (int source = 0; source < PATHS; source++) {
                if (sourceLeft[source] && TreeFile.same(base.fileAt(source), file)) {
                    if (nameOf(source) == name) {
                        return source;
                    }
                    if (least == NONE) {
                        least = source;
                    }
                }
            }
            return least;
        }

        private void pairOnlyNames(Tree base, Tree tree, int leastScore) {
            for (int name = 0; name < NAMES; name++) {
                int source = findOnly(sourceLeft, name);
                int target = findOnly(targetLeft, name);
                if (source != NONE && target != NONE
                        && TreeFile.likeness(base.fileAt(source), tree.fileAt(target)) >= leastScore) {
                    pair(source, target);
                }
            }
        }

        /** The one path left that has the name; NONE where there is none or more than one. */
        private static int findOnly(boolean[] left, int name) {
            int found = NONE;
            for (int path = name; path < left.length; path += NAMES) {
                if (left[path]) {
                    if (found != NONE) {
                        return NONE;
                    }
                    found = path;
                }
            }
            return found;
        }

        private void pairByScore(Tree base, Tree tree, int threshold) {
            int sourceCount = countLeft(sourceLeft);
            int targetCount = countLeft(targetLeft);
            if (sourceCount * targetCount > MOST_SCORED_PAIRS) {
                return;
            }
            int rounds = Math.min(sourceCount, targetCount);
            for (int round = 0; round < rounds; round++) {
                pairBest(base, tree, threshold);
            }
        }

        private static int countLeft(boolean[] left) {
            int count = 0;
            for (int path = 0; path < left.length; path++) {
                if (left[path]) {
                    count++;
                }
            }
            return count;
        }

        /** Sources and targets are met in rising order, so only a better rank may displace a pair. */
        private void pairBest(Tree base, Tree tree, int threshold) {
            int bestRank = NONE;
            int bestSource = NONE;
            int bestTarget = NONE;
            for (int source = 0; source < PATHS; source++) {
                for (int target = 0; target < PATHS && sourceLeft[source]; target++) {
                    if (targetLeft[target]) {
                        int likeness = TreeFile.likeness(base.fileAt(source), tree.fileAt(target));
                        int rank = 2 * likeness + (nameOf(source) == nameOf(target) ? 1 : 0);
                        if (likeness >= threshold && rank > bestRank) {
                            bestRank = rank;
                            bestSource = source;
                            bestTarget = target;
                        }
                    }
                }
            }
            if (bestSource != NONE && bestTarget != NONE) {
                pair(bestSource, bestTarget);
            }
        }

        void findPlaces(Tree tree) {
            for (int directory = 0; directory < DIRECTORIES; directory++) {
                places[directory] = tree.hasFileIn(directory) ? NONE : findPlace(directory);
            }
        }

        private int findPlace(int from) {
            int most = 0;
            int place = NONE;
            for (int to = 0; to < DIRECTORIES; to++) {
                int count = countRenames(from, to);
                if (count > most) {
                    most = count;
                    place = to;
                } else if (count == most && count > 0) {
                    place = SPLIT;
                }
            }
            return place;
        }

        private int countRenames(int from, int to) {
            int count = 0;
            for (int name = 0; name < NAMES; name++) {
                int target = targets[from * NAMES + name];
                if (target != NONE && directoryOf(target) == to) {
                    count++;
                }
            }
            return count;
        }

        void findStands(Tree base, Tree tree, Tree otherTree, Side other, int[] conflicts) {
            findWanted(base, tree, other);
            for (int path = 0; path < PATHS; path++) {
                standing[path] = tree.has(path) ? path : NONE;
                int place = wanted[path];
                if (place == NONE) {
                    continue;
                }
                if (place == SPLIT || base.has(place) || tree.has(place) || otherTree.has(place)
                        || countWanted(place) > 1) {
                    conflicts[path] |= DIRECTORY;
                } else {
                    standing[path] = place;
                }
            }
        }

        /** For each file the path where it is wanted, SPLIT in a split directory, else NONE. */
        private void findWanted(Tree base, Tree tree, Side other) {
            for (int path = 0; path < PATHS; path++) {
                wanted[path] = NONE;
                if (tree.has(path) && !base.has(path)) {
                    int place = other.placeOf(directoryOf(path));
                    if (place == SPLIT) {
                        wanted[path] = SPLIT;
                    } else if (place != NONE && placeOf(place) < 0) {
                        wanted[path] = place * NAMES + nameOf(path);
                    }
                }
            }
        }

        private int countWanted(int place) {
            int count = 0;
            for (int path = 0; path < PATHS; path++) {
                if (wanted[path] == place) {
                    count++;
                }
            }
            return count;
        }

        void layStanding(Tree tree, Tree version) {
            for (int path = 0; path < PATHS; path++) {
                version.lay(path, null);
            }
            for (int path = 0; path < PATHS; path++) {
                if (tree.has(path)) {
                    version.lay(standing[path], tree.fileAt(path));
                }
            }
        }
    }

    /** The latest merge: its versions, its conflicts and what it found of the two sides. */
    private static final class Merger {
        private final Tree[] versions = new Tree[VERSIONS];
        private final Side ours = new Side();
        private final Side theirs = new Side();
        private final int[] conflicts = new int[PATHS];
        private final LineMerge lineMerge = new LineMerge();

        Merger() {
            for (int i = 0; i < VERSIONS; i++) {
                versions[i] = new Tree();
            }
        }

        Side sideOf(int side) {
            if (side == OURS) {
                return ours;
            }
            return side == THEIRS ? theirs : null;
        }

        int codesAt(int path) {
            return isPath(path) ? conflicts[path] : 0;
        }

        TreeFile stagedFile(int version, int path) {
            boolean isVersion = version >= 0 && version < VERSIONS;
            return isVersion && codesAt(path) != 0 ? versions[version].fileAt(path) : null;
        }

        int countConflictPaths() {
            int count = 0;
            for (int path = 0; path < PATHS; path++) {
                if (conflicts[path] != 0) {
                    count++;
                }
            }
            return count;
        }

        /** All that is found from the trees as they are, before any file goes anywhere. */
        void begin(Tree base, Tree ourTree, Tree theirTree, int threshold) {
            Arrays.fill(conflicts, 0);
            ours.findRenames(base, ourTree, threshold);
            theirs.findRenames(base, theirTree, threshold);
            ours.findPlaces(ourTree);
            theirs.findPlaces(theirTree);
            ours.findStands(base, ourTree, theirTree, theirs, conflicts);
            theirs.findStands(base, theirTree, ourTree, ours, conflicts);
            versions[BASE].become(base);
            ours.layStanding(ourTree, versions[OURS]);
            theirs.layStanding(theirTree, versions[THEIRS]);
        }

        void carryRename(int path, int style) {
            int inOurs = ours.standOf(ours.targetOf(path));
            int inTheirs = theirs.standOf(theirs.targetOf(path));
            if (inOurs != NONE && inTheirs != NONE) {
                carryByBoth(path, inOurs, inTheirs);
            } else if (inOurs != NONE) {
                carryByOne(OURS, path, inOurs, style);
            } else if (inTheirs != NONE) {
                carryByOne(THEIRS, path, inTheirs, style);
            }
        }

        private void carryByBoth(int path, int inOurs, int inTheirs) {
            if (inOurs == inTheirs) {
                versions[BASE].move(path, inOurs);
            } else {
                mark(path, TWICE);
                mark(inOurs, TWICE);
                mark(inTheirs, TWICE);
            }
        }

        private void carryByOne(int side, int path, int to, int style) {
            Tree base = versions[BASE];
            Tree own = versions[side];
            Tree other = versions[side == OURS ? THEIRS : OURS];
            if (!other.has(path)) {
                mark(to, GONE);
                if (other.has(to)) {
                    base.lay(path, null);
                } else {
                    base.move(path, to);
                }
            } else if (!other.has(to)) {
                base.move(path, to);
                other.move(path, to);
            } else {
                mark(to, ONTO);
                TreeFile a = side == OURS ? own.fileAt(to) : other.fileAt(path);
                TreeFile b = side == OURS ? other.fileAt(path) : own.fileAt(to);
                own.lay(to, mergeFiles(to, base.fileAt(path), a, b, style));
                base.lay(path, null);
                other.lay(path, null);
            }
        }

        /** The file of the result at a path. */
        TreeFile settle(int path, int style) {
            TreeFile a = versions[OURS].fileAt(path);
            TreeFile b = versions[THEIRS].fileAt(path);
            if ((codesAt(path) & GONE) != 0 && (a == null || b == null)) {
                return a == null ? b : a;
            }
            return mergeFiles(path, versions[BASE].fileAt(path), a, b, style);
        }

        private TreeFile mergeFiles(int path, TreeFile o, TreeFile a, TreeFile b, int style) {
            if (TreeFile.same(a, b)) {
                return a;
            }
            if (TreeFile.same(o, a)) {
                return b;
            }
            if (TreeFile.same(o, b)) {
                return a;
            }
            if (a == null || b == null) {
                mark(path, DROPPED);
                return a == null ? b : a;
            }
            if (a.link || b.link || (o != null && o.link)) {
                mark(path, KINDS);
                return a;
            }
            lineMerge.join(o == null ? NO_LINES : o.lines, a.lines, b.lines, style);
            if (lineMerge.hasClash()) {
                mark(path, o == null ? ADDED : CONTENT);
            }
            return new TreeFile(false, lineMerge.takeWritten());
        }

        private void mark(int path, int code) {
            if (isPath(path)) {
                conflicts[path] |= code;
            }
        }
    }

    /** One text's share of a gap: some neighbouring lines of it, perhaps none. */
    private static final class Part {
        int[] text = NO_LINES;
        int from = 0;
        int width = 0;

        void startAt(int[] newText) {
            text = newText;
            from = 0;
            width = 0;
        }

        void reachTo(int end) {
            width = end - from;
        }

        void startBehind(int anchor) {
            from = anchor + 1;
            width = 0;
        }

        boolean sameAs(Part other) {
            if (width != other.width) {
                return false;
            }
            for (int i = 0; i < width; i++) {
                if (text[from + i] != other.text[other.from + i]) {
                    return false;
                }
            }
            return true;
        }

        int commonBeginning(Part other) {
            int most = Math.min(width, other.width);
            int count = 0;
            while (count < most && text[from + count] == other.text[other.from + count]) {
                count++;
            }
            return count;
        }

        /** The beginning has been taken off before, so that no line is in both. */
        int commonEnd(Part other, int beginning) {
            int most = Math.min(width, other.width) - beginning;
            int last = from + width - 1;
            int otherLast = other.from + other.width - 1;
            int count = 0;
            while (count < most && text[last - count] == other.text[otherLast - count]) {
                count++;
            }
            return count;
        }
    }

    /** Merges three texts; its rows are made once and used for every merge. */
    private static final class LineMerge {
        private final int[][] common = new int[MOST_LINES + 1][LONGEST + 1];
        private final int[] pairedA = new int[MOST_LINES];
        private final int[] pairedB = new int[MOST_LINES];
        private final Part partO = new Part();
        private final Part partA = new Part();
        private final Part partB = new Part();
        private final int[] written = new int[LONGEST];
        private int count = 0;
        private boolean clash = false;

        boolean hasClash() {
            return clash;
        }

        int[] takeWritten() {
            return Arrays.copyOf(written, count);
        }

        void join(int[] o, int[] a, int[] b, int style) {
            count = 0;
            clash = false;
            match(o, a, pairedA);
            match(o, b, pairedB);
            partO.startAt(o);
            partA.startAt(a);
            partB.startAt(b);
            for (int i = 0; i < o.length && i < MOST_LINES; i++) {
                if (pairedA[i] != NONE && pairedB[i] != NONE) {
                    partO.reachTo(i);
                    partA.reachTo(pairedA[i]);
                    partB.reachTo(pairedB[i]);
                    writeGap(style);
                    write(o[i]);
                    partO.startBehind(i);
                    partA.startBehind(pairedA[i]);
                    partB.startBehind(pairedB[i]);
                }
            }
            partO.reachTo(o.length);
            partA.reachTo(a.length);
            partB.reachTo(b.length);
            writeGap(style);
        }

        /**
         * For each line of o the line of x that it is paired with, or NONE. Taking the first line of
         * o that still leaves the most pairs, and its first equal line of x, gives the matching that
         * comes first in dictionary order.
         */
        private void match(int[] o, int[] x, int[] paired) {
            int oLines = Math.min(o.length, MOST_LINES);
            int xLines = Math.min(x.length, LONGEST);
            countCommon(o, oLines, x, xLines);
            int next = 0;
            int left = common[0][0];
            for (int i = 0; i < oLines; i++) {
                int j = next;
                while (j < xLines && x[j] != o[i]) {
                    j++;
                }
                if (j < xLines && common[i + 1][j + 1] + 1 == left) {
                    paired[i] = j;
                    next = j + 1;
                    left--;
                } else {
                    paired[i] = NONE;
                }
            }
        }

        /** common[i][j]: the most pairs of o from line i on with x from line j on. */
        private void countCommon(int[] o, int oLines, int[] x, int xLines) {
            for (int j = 0; j <= xLines; j++) {
                common[oLines][j] = 0;
            }
            for (int i = oLines - 1; i >= 0; i--) {
                common[i][xLines] = 0;
                for (int j = xLines - 1; j >= 0; j--) {
                    common[i][j] = o[i] == x[j]
                            ? common[i + 1][j + 1] + 1
                            : Math.max(common[i + 1][j], common[i][j + 1]);
                }
            }
        }

        private void writeGap(int style) {
            if (partA.sameAs(partO)) {
                writeLines(partB, 0, partB.width);
            } else if (partB.sameAs(partO) || partA.sameAs(partB)) {
                writeLines(partA, 0, partA.width);
            } else {
                clash = true;
                boolean trimmed = style == TRIMMED_STYLE;
                int beginning = trimmed ? partA.commonBeginning(partB) : 0;
                int end = trimmed ? partA.commonEnd(partB, beginning) : 0;
                writeLines(partA, 0, beginning);
                write(OPEN);
                writeLines(partA, beginning, partA.width - end);
                if (style != SHORT_STYLE) {
                    write(OLD);
                    writeLines(partO, 0, partO.width);
                }
                write(MIDDLE);
                writeLines(partB, beginning, partB.width - end);
                write(CLOSE);
                writeLines(partA, partA.width - end, partA.width);
            }
        }

        private void writeLines(Part part, int from, int to) {
            for (int i = from; i < to && count < LONGEST; i++) {
                written[count] = part.text[part.from + i];
                count++;
            }
        }

        private void write(int line) {
            if (count < LONGEST) {
                written[count] = line;
                count++;
            }
        }
    }
}
