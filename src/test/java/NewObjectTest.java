/** Promise 1: empty trees, style 0, no merge yet, and the threshold with its edges. */
public final class NewObjectTest {
    private static final Check CHECK = new Check();

    public static void main(String[] args) {
        hasEmptyTrees();
        tellsOfNoMerge();
        hasStyle0();
        hasThreshold();
        CHECK.end();
    }

    private static void hasEmptyTrees() {
        RenameMerge m = new RenameMerge(50);
        for (int tree = 0; tree <= 3; tree++) {
            CHECK.due("size(" + tree + ")", m.size(tree), 0);
            CHECK.due("kind(" + tree + ", 0)", m.kind(tree, 0), 0);
            CHECK.due("length(" + tree + ", 63)", m.length(tree, 63), RenameMerge.NONE);
            CHECK.due("line(" + tree + ", 63, 0)", m.line(tree, 63, 0), 0);
        }
    }

    private static void tellsOfNoMerge() {
        RenameMerge m = new RenameMerge(50);
        m.put(0, 8, 0x1, false);
        m.put(1, 16, 0x1, false);
        m.put(2, 8, 0x2, false);
        CHECK.due("adopt before a merge", m.adopt(0), false);
        CHECK.due("size(0) after a refused adopt", m.size(0), 1);
        CHECK.due("size(3) before a merge", m.size(3), 0);
        for (int path = 0; path < 64; path++) {
            CHECK.due("conflict before a merge", m.conflict(path), 0);
            CHECK.due("staged before a merge", m.staged(1, path), RenameMerge.NONE);
            CHECK.due("stagedLine before a merge", m.stagedLine(1, path, 0), 0);
            CHECK.due("renamed before a merge", m.renamed(1, path), RenameMerge.NONE);
            CHECK.due("stands before a merge", m.stands(2, path), RenameMerge.NONE);
        }
        for (int directory = 0; directory < 8; directory++) {
            CHECK.due("newPlace before a merge", m.newPlace(1, directory), RenameMerge.NONE);
        }
    }

    private static void hasStyle0() {
        RenameMerge m = new RenameMerge(50);
        m.put(0, 0, 0x1, false);
        m.put(1, 0, 0x2, false);
        m.put(2, 0, 0x3, false);
        CHECK.due("merge", m.merge(), 1);
        CHECK.due("a clash in a new object's style", Check.file(m, 3, 0), "plain 16 2 18 3 19");
    }

    private static void hasThreshold() {
        CHECK.due("threshold 1, score 12", isRenamed(1, 0x87654321, 0x8), true);
        CHECK.due("threshold 12, score 12", isRenamed(12, 0x87654321, 0x8), true);
        CHECK.due("threshold 13, score 12", isRenamed(13, 0x87654321, 0x8), false);
        CHECK.due("threshold 1, score 0", isRenamed(1, 0x87654321, 0x9), false);
        CHECK.due("threshold 100, score 87", isRenamed(100, 0x87654321, 0x97654321), false);
        CHECK.due("threshold 100, score 100", isRenamed(100, 0x87654321, 0x12345678), true);
        for (int threshold : new int[] {0, -1, 101, 1000, Integer.MIN_VALUE, Integer.MAX_VALUE, 50}) {
            CHECK.due("threshold " + threshold + ", score 50", isRenamed(threshold, 0x87654321, 0x4321), true);
            CHECK.due("threshold " + threshold + ", score 37", isRenamed(threshold, 0x87654321, 0x321), false);
        }
    }

    private static boolean isRenamed(int threshold, int oldText, int newText) {
        RenameMerge m = new RenameMerge(threshold);
        Check.everywhere(m, 1, oldText);
        Check.move(m, 1, 1, 10, newText);
        m.merge();
        return m.renamed(1, 1) == 10;
    }
}
