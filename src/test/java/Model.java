import java.util.ArrayList;
import java.util.Comparator;
import java.util.HashMap;
import java.util.List;
import java.util.Map;
import java.util.TreeMap;
import java.util.TreeSet;

/**
 * The document's words a second time, in another way than the program's: with maps and lists, every
 * choice made by going through all that there is. ModelTest lays the program's answers beside these.
 */
final class Model {
    private static final int NONE = -1;
    private static final int SPLIT = -2;

    record Doc(boolean link, List<Integer> lines) {
    }

    record Pair(int source, int target, int score) {
        boolean sameName() {
            return source % 8 == target % 8;
        }
    }

    /** What the latest merge tells of one side. */
    private static final class Told {
        final TreeMap<Integer, Integer> renames = new TreeMap<>();
        final Map<Integer, Integer> places = new HashMap<>();
        final Map<Integer, Integer> wanted = new HashMap<>();
        final Map<Integer, Integer> stands = new HashMap<>();
    }

    private final int threshold;
    private final List<TreeMap<Integer, Doc>> trees = new ArrayList<>();
    private int style = 0;
    private boolean merged = false;
    private List<TreeMap<Integer, Doc>> versions = List.of(new TreeMap<>(), new TreeMap<>(), new TreeMap<>());
    private List<Told> told = List.of(new Told(), new Told(), new Told());
    private TreeMap<Integer, TreeSet<Integer>> conflicts = new TreeMap<>();
    private boolean gapInConflict;

    Model(int threshold) {
        this.threshold = 1 <= threshold && threshold <= 100 ? threshold : 50;
        for (int i = 0; i < 4; i++) {
            trees.add(new TreeMap<>());
        }
    }

    long call(String name, int... a) {
        return switch (name) {
            case "put" -> put(a[0], a[1], a[2], a[3] != 0) ? 1 : 0;
            case "drop" -> within(a[0], 0, 2) && trees.get(a[0]).remove(a[1]) != null ? 1 : 0;
            case "copy" -> copy(a[0], a[1]) ? 1 : 0;
            case "adopt" -> adopt(a[0]) ? 1 : 0;
            case "style" -> choose(a[0]) ? 1 : 0;
            case "merge" -> merge();
            case "size" -> within(a[0], 0, 3) ? trees.get(a[0]).size() : NONE;
            case "kind" -> doc(a[0], a[1]) == null ? 0 : doc(a[0], a[1]).link ? 2 : 1;
            case "length" -> lengthOf(doc(a[0], a[1]));
            case "line" -> lineOf(doc(a[0], a[1]), a[2]);
            case "conflict" -> conflicts.getOrDefault(a[0], new TreeSet<>()).stream().mapToInt(c -> c).sum();
            case "staged" -> lengthOf(stagedDoc(a[0], a[1]));
            case "stagedLine" -> lineOf(stagedDoc(a[0], a[1]), a[2]);
            case "renamed" -> isSide(a[0]) ? told.get(a[0]).renames.getOrDefault(a[1], NONE) : NONE;
            case "newPlace" -> isSide(a[0]) ? told.get(a[0]).places.getOrDefault(a[1], NONE) : NONE;
            case "stands" -> isSide(a[0]) ? told.get(a[0]).stands.getOrDefault(a[1], NONE) : NONE;
            case "score" -> isSide(a[0]) ? scoreOf(trees.get(0).get(a[1]), trees.get(a[0]).get(a[2])) : NONE;
            default -> throw new IllegalArgumentException(name);
        };
    }

    private static boolean within(int n, int least, int most) {
        return least <= n && n <= most;
    }

    private static boolean isSide(int side) {
        return side == 1 || side == 2;
    }

    private Doc doc(int tree, int path) {
        return within(tree, 0, 3) ? trees.get(tree).get(path) : null;
    }

    private Doc stagedDoc(int version, int path) {
        return within(version, 0, 2) && conflicts.containsKey(path) ? versions.get(version).get(path) : null;
    }

    private static int lengthOf(Doc doc) {
        return doc == null ? NONE : doc.lines.size();
    }

    private static int lineOf(Doc doc, int i) {
        return doc != null && within(i, 0, doc.lines.size() - 1) ? doc.lines.get(i) : 0;
    }

    private boolean put(int tree, int path, int text, boolean link) {
        if (!within(tree, 0, 2) || !within(path, 0, 63)) {
            return false;
        }
        if (!trees.get(tree).containsKey(path) && trees.get(tree).size() == 8) {
            return false;
        }
        List<Integer> lines = new ArrayList<>();
        String digits = new StringBuilder(Integer.toHexString(text)).reverse().toString().replace("0", "");
        for (char digit : digits.toCharArray()) {
            lines.add(Character.digit(digit, 16));
        }
        trees.get(tree).put(path, new Doc(link, lines));
        return true;
    }

    private boolean copy(int from, int to) {
        if (!within(from, 0, 2) || !within(to, 0, 2)) {
            return false;
        }
        trees.set(to, new TreeMap<>(trees.get(from)));
        return true;
    }

    private boolean adopt(int tree) {
        if (!within(tree, 0, 2) || !merged || trees.get(3).size() > 8
                || trees.get(3).values().stream().anyMatch(doc -> doc.lines.size() > 8)) {
            return false;
        }
        trees.set(tree, new TreeMap<>(trees.get(3)));
        return true;
    }

    private boolean choose(int s) {
        if (!within(s, 0, 2)) {
            return false;
        }
        style = s;
        return true;
    }

    // the line merge

    /** All lists of pairs, of which the best by the document's three rules is kept. */
    private static List<int[]> matching(List<Integer> o, List<Integer> x) {
        List<List<int[]>> best = new ArrayList<>();
        best.add(List.of());
        grow(o, x, new ArrayList<>(), best);
        return best.get(0);
    }

    private static void grow(List<Integer> o, List<Integer> x, List<int[]> list, List<List<int[]>> best) {
        if (isBetter(list, best.get(0))) {
            best.set(0, new ArrayList<>(list));
        }
        int[] last = list.isEmpty() ? new int[] {-1, -1} : list.get(list.size() - 1);
        for (int i = last[0] + 1; i < o.size(); i++) {
            for (int j = last[1] + 1; j < x.size(); j++) {
                if (o.get(i).equals(x.get(j))) {
                    list.add(new int[] {i, j});
                    grow(o, x, list, best);
                    list.remove(list.size() - 1);
                }
            }
        }
    }

    private static boolean isBetter(List<int[]> one, List<int[]> two) {
        if (one.size() != two.size()) {
            return one.size() > two.size();
        }
        for (int part = 0; part < 2; part++) {
            for (int k = 0; k < one.size(); k++) {
                if (one.get(k)[part] != two.get(k)[part]) {
                    return one.get(k)[part] < two.get(k)[part];
                }
            }
        }
        return false;
    }

    private List<Integer> lineMerge(List<Integer> o, List<Integer> a, List<Integer> b) {
        gapInConflict = false;
        List<int[]> anchors = new ArrayList<>();
        for (int[] withA : matching(o, a)) {
            for (int[] withB : matching(o, b)) {
                if (withA[0] == withB[0]) {
                    anchors.add(new int[] {withA[0], withA[1], withB[1]});
                }
            }
        }
        anchors.add(new int[] {o.size(), a.size(), b.size()});
        List<Integer> merge = new ArrayList<>();
        int[] start = {0, 0, 0};
        for (int[] anchor : anchors) {
            merge.addAll(gap(o.subList(start[0], anchor[0]), a.subList(start[1], anchor[1]),
                    b.subList(start[2], anchor[2])));
            if (anchor[0] < o.size()) {
                merge.add(o.get(anchor[0]));
            }
            start = new int[] {anchor[0] + 1, anchor[1] + 1, anchor[2] + 1};
        }
        return merge;
    }

    private List<Integer> gap(List<Integer> o, List<Integer> a, List<Integer> b) {
        if (a.equals(o)) {
            return b;
        }
        if (b.equals(o) || a.equals(b)) {
            return a;
        }
        gapInConflict = true;
        List<Integer> leftA = new ArrayList<>(a);
        List<Integer> leftB = new ArrayList<>(b);
        List<Integer> beginning = new ArrayList<>();
        List<Integer> end = new ArrayList<>();
        while (style == 2 && !leftA.isEmpty() && !leftB.isEmpty() && leftA.get(0).equals(leftB.get(0))) {
            beginning.add(leftA.remove(0));
            leftB.remove(0);
        }
        while (style == 2 && !leftA.isEmpty() && !leftB.isEmpty()
                && leftA.get(leftA.size() - 1).equals(leftB.get(leftB.size() - 1))) {
            end.add(0, leftA.remove(leftA.size() - 1));
            leftB.remove(leftB.size() - 1);
        }
        List<Integer> written = new ArrayList<>(beginning);
        written.add(16);
        written.addAll(leftA);
        if (style > 0) {
            written.add(17);
            written.addAll(o);
        }
        written.add(18);
        written.addAll(leftB);
        written.add(19);
        written.addAll(end);
        return written;
    }

    // the file merge

    private void say(int path, int code) {
        conflicts.computeIfAbsent(path, none -> new TreeSet<>()).add(code);
    }

    private static boolean same(Doc one, Doc two) {
        return one == null ? two == null : one.equals(two);
    }

    private Doc fileMerge(int path, Doc o, Doc a, Doc b) {
        if (same(a, b)) {
            return a;
        }
        if (same(o, a)) {
            return b;
        }
        if (same(o, b)) {
            return a;
        }
        if (a == null) {
            say(path, 4);
            return b;
        }
        if (b == null) {
            say(path, 4);
            return a;
        }
        if (o != null && o.link || a.link || b.link) {
            say(path, 8);
            return a;
        }
        List<Integer> lines = lineMerge(o == null ? List.of() : o.lines, a.lines, b.lines);
        if (gapInConflict) {
            say(path, o == null ? 2 : 1);
        }
        return new Doc(false, lines);
    }

    // the renames

    private static int scoreOf(Doc one, Doc two) {
        if (one == null || two == null || one.link || two.link) {
            return NONE;
        }
        int n = Math.max(one.lines.size(), two.lines.size());
        int c = 0;
        for (int line = 1; line <= 19; line++) {
            int wanted = line;
            c += (int) Math.min(one.lines.stream().filter(l -> l == wanted).count(),
                    two.lines.stream().filter(l -> l == wanted).count());
        }
        return n == 0 ? 0 : 100 * c / n;
    }

    private TreeMap<Integer, Integer> findRenames(TreeMap<Integer, Doc> base, TreeMap<Integer, Doc> tree) {
        TreeMap<Integer, Integer> renames = new TreeMap<>();
        TreeSet<Integer> sources = new TreeSet<>(base.keySet());
        sources.removeAll(tree.keySet());
        TreeSet<Integer> targets = new TreeSet<>(tree.keySet());
        targets.removeAll(base.keySet());
        for (int target : new TreeSet<>(targets)) {
            sources.stream().filter(source -> base.get(source).equals(tree.get(target)))
                    .min(Comparator.comparing((Integer source) -> source % 8 != target % 8)
                            .thenComparing(source -> source))
                    .ifPresent(source -> {
                        renames.put(source, target);
                        sources.remove(source);
                        targets.remove(target);
                    });
        }
        for (int n = 0; n < 8; n++) {
            int name = n;
            List<Integer> from = sources.stream().filter(path -> path % 8 == name).toList();
            List<Integer> to = targets.stream().filter(path -> path % 8 == name).toList();
            if (from.size() == 1 && to.size() == 1
                    && scoreOf(base.get(from.get(0)), tree.get(to.get(0))) >= (101 + threshold) / 2) {
                renames.put(from.get(0), to.get(0));
                sources.remove(from.get(0));
                targets.remove(to.get(0));
            }
        }
        if (sources.size() * targets.size() <= 20) {
            for (Pair pair : scoredPairs(base, tree, sources, targets)) {
                if (sources.contains(pair.source) && targets.contains(pair.target)) {
                    renames.put(pair.source, pair.target);
                    sources.remove(pair.source);
                    targets.remove(pair.target);
                }
            }
        }
        return renames;
    }

    private List<Pair> scoredPairs(TreeMap<Integer, Doc> base, TreeMap<Integer, Doc> tree,
            TreeSet<Integer> sources, TreeSet<Integer> targets) {
        List<Pair> pairs = new ArrayList<>();
        for (int source : sources) {
            for (int target : targets) {
                int score = scoreOf(base.get(source), tree.get(target));
                if (score >= threshold) {
                    pairs.add(new Pair(source, target, score));
                }
            }
        }
        pairs.sort(Comparator.comparing((Pair pair) -> -pair.score).thenComparing(pair -> !pair.sameName())
                .thenComparing(Pair::source).thenComparing(Pair::target));
        return pairs;
    }

    // the directories

    private Map<Integer, Integer> findPlaces(TreeMap<Integer, Doc> tree, TreeMap<Integer, Integer> renames) {
        Map<Integer, Integer> places = new HashMap<>();
        for (int d = 0; d < 8; d++) {
            int directory = d;
            Map<Integer, Integer> counts = new TreeMap<>();
            renames.forEach((source, target) -> {
                if (source / 8 == directory) {
                    counts.merge(target / 8, 1, Integer::sum);
                }
            });
            if (counts.isEmpty() || tree.keySet().stream().anyMatch(path -> path / 8 == directory)) {
                continue;
            }
            int greatest = counts.values().stream().max(Comparator.naturalOrder()).orElseThrow();
            List<Integer> most = counts.keySet().stream().filter(e -> counts.get(e) == greatest).toList();
            places.put(directory, most.size() == 1 ? most.get(0) : SPLIT);
        }
        return places;
    }

    private void findStands(int t) {
        int s = 3 - t;
        Told mine = told.get(t);
        for (int x : trees.get(t).keySet()) {
            mine.stands.put(x, x);
            int e = told.get(s).places.getOrDefault(x / 8, NONE);
            if (trees.get(0).containsKey(x) || e == NONE) {
                continue;
            }
            if (e == SPLIT) {
                say(x, 128);
            } else if (mine.places.getOrDefault(e, SPLIT) == SPLIT) {
                mine.wanted.put(x, 8 * e + x % 8);
            }
        }
        mine.wanted.forEach((x, y) -> {
            boolean taken = trees.get(0).containsKey(y) || trees.get(1).containsKey(y) || trees.get(2).containsKey(y);
            boolean shared = mine.wanted.entrySet().stream()
                    .anyMatch(other -> !other.getKey().equals(x) && other.getValue().equals(y));
            if (taken || shared) {
                say(x, 128);
            } else {
                mine.stands.put(x, y);
            }
        });
    }

    // the merge

    private int merge() {
        conflicts = new TreeMap<>();
        told = List.of(new Told(), new Told(), new Told());
        versions = List.of(new TreeMap<>(trees.get(0)), new TreeMap<>(), new TreeMap<>());
        for (int s = 1; s <= 2; s++) {
            told.get(s).renames.putAll(findRenames(trees.get(0), trees.get(s)));
            told.get(s).places.putAll(findPlaces(trees.get(s), told.get(s).renames));
        }
        for (int s = 1; s <= 2; s++) {
            int side = s;
            findStands(side);
            trees.get(side).forEach((path, doc) -> versions.get(side).put(told.get(side).stands.get(path), doc));
        }
        TreeSet<Integer> renamed = new TreeSet<>(told.get(1).renames.keySet());
        renamed.addAll(told.get(2).renames.keySet());
        for (int p : renamed) {
            bringTogether(p);
        }
        TreeMap<Integer, Doc> result = new TreeMap<>();
        for (int x = 0; x < 64; x++) {
            Doc doc = resultAt(x);
            if (doc != null) {
                result.put(x, doc);
            }
        }
        trees.set(3, result);
        merged = true;
        return conflicts.size();
    }

    private Integer standOfRename(int side, int p) {
        Integer target = told.get(side).renames.get(p);
        return target == null ? null : told.get(side).stands.get(target);
    }

    private void bringTogether(int p) {
        Integer x1 = standOfRename(1, p);
        Integer x2 = standOfRename(2, p);
        TreeMap<Integer, Doc> v0 = versions.get(0);
        if (x1 != null && x2 != null) {
            if (x1.equals(x2)) {
                v0.put(x1, v0.remove(p));
            } else {
                say(p, 32);
                say(x1, 32);
                say(x2, 32);
            }
            return;
        }
        int s = x1 != null ? 1 : 2;
        int x = x1 != null ? x1 : x2;
        TreeMap<Integer, Doc> vs = versions.get(s);
        TreeMap<Integer, Doc> vt = versions.get(3 - s);
        if (vt.containsKey(p) && !vt.containsKey(x)) {
            v0.put(x, v0.remove(p));
            vt.put(x, vt.remove(p));
        } else if (vt.containsKey(p)) {
            say(x, 64);
            Doc o = v0.remove(p);
            Doc fromT = vt.remove(p);
            vs.put(x, s == 1 ? fileMerge(x, o, vs.get(x), fromT) : fileMerge(x, o, fromT, vs.get(x)));
        } else {
            say(x, 16);
            Doc o = v0.remove(p);
            if (!vt.containsKey(x)) {
                v0.put(x, o);
            }
        }
    }

    private Doc resultAt(int x) {
        Doc v1 = versions.get(1).get(x);
        Doc v2 = versions.get(2).get(x);
        boolean gone = conflicts.getOrDefault(x, new TreeSet<>()).contains(16);
        if (gone && v1 == null) {
            return v2;
        }
        if (gone && v2 == null) {
            return v1;
        }
        return fileMerge(x, versions.get(0).get(x), v1, v2);
    }
}
