/** Promises 2 put, 3 drop, 4 copy, 8 size, 9 kind, 10 length and 11 line. */
public final class TreesTest {
    private static final Check CHECK = new Check();
    private static final int[] NO_TREES = {-1, 3, 4, Integer.MIN_VALUE, Integer.MAX_VALUE};
    private static final int[] NO_PATHS = {-1, 64, -64, Integer.MIN_VALUE, Integer.MAX_VALUE};

    public static void main(String[] args) {
        putReadsDigits();
        putReplaces();
        putRefuses();
        putTakesNoNinthFile();
        dropTakesAway();
        copyTakesAll();
        copyRefuses();
        readsWhatIsNotThere();
        CHECK.end();
    }

    private static void putReadsDigits() {
        RenameMerge m = new RenameMerge(50);
        CHECK.due("put", m.put(0, 0, 0x87654321, false), true);
        CHECK.due("eight lines, from the lowest digit on", Check.file(m, 0, 0), "plain 1 2 3 4 5 6 7 8");
        CHECK.due("put", m.put(1, 63, 0xF00A0010, true), true);
        CHECK.due("digits that are 0 are left out", Check.file(m, 1, 63), "link 1 10 15");
        CHECK.due("put", m.put(2, 9, 0, false), true);
        CHECK.due("text 0 has no lines", Check.file(m, 2, 9), "plain");
        CHECK.due("length of an empty text", m.length(2, 9), 0);
        CHECK.due("put", m.put(2, 9, -1, false), true);
        CHECK.due("all digits 15", Check.file(m, 2, 9), "plain 15 15 15 15 15 15 15 15");
        CHECK.due("put", m.put(2, 10, Integer.MIN_VALUE, false), true);
        CHECK.due("the highest digit alone", Check.file(m, 2, 10), "plain 8");
        CHECK.due("only its own tree has a file", Check.file(m, 0, 63), "none");
    }

    private static void putReplaces() {
        RenameMerge m = new RenameMerge(50);
        m.put(0, 5, 0x321, false);
        CHECK.due("put again", m.put(0, 5, 0x4, true), true);
        CHECK.due("the later file", Check.file(m, 0, 5), "link 4");
        CHECK.due("still one file", m.size(0), 1);
        CHECK.due("a line of the earlier file", m.line(0, 5, 1), 0);
    }

    private static void putRefuses() {
        RenameMerge m = new RenameMerge(50);
        for (int tree : NO_TREES) {
            CHECK.due("put into tree " + tree, m.put(tree, 0, 0x1, false), false);
        }
        for (int path : NO_PATHS) {
            CHECK.due("put at path " + path, m.put(0, path, 0x1, false), false);
        }
        for (int tree = 0; tree <= 3; tree++) {
            CHECK.due("size after refused puts", m.size(tree), 0);
        }
    }

    private static void putTakesNoNinthFile() {
        for (int tree = 0; tree <= 2; tree++) {
            RenameMerge m = new RenameMerge(50);
            for (int i = 0; i < 8; i++) {
                CHECK.due("put number " + i, m.put(tree, 9 * i, 0x1, false), true);
                CHECK.due("size", m.size(tree), i + 1);
            }
            CHECK.due("the ninth file", m.put(tree, 1, 0x1, false), false);
            CHECK.due("nothing is at its path", m.kind(tree, 1), 0);
            CHECK.due("in the place of another", m.put(tree, 63, 0x2, false), true);
            CHECK.due("the file there", Check.file(m, tree, 63), "plain 2");
            CHECK.due("size", m.size(tree), 8);
            CHECK.due("drop", m.drop(tree, 0), true);
            CHECK.due("a file in the room that is free", m.put(tree, 1, 0x1, false), true);
        }
    }

    private static void dropTakesAway() {
        RenameMerge m = new RenameMerge(50);
        Check.everywhere(m, 7, 0x1);
        Check.everywhere(m, 8, 0x2);
        CHECK.due("drop", m.drop(1, 7), true);
        CHECK.due("what was dropped", Check.file(m, 1, 7), "none");
        CHECK.due("its neighbour", Check.file(m, 1, 8), "plain 2");
        CHECK.due("the other tree's", Check.file(m, 2, 7), "plain 1");
        CHECK.due("drop again", m.drop(1, 7), false);
        CHECK.due("size", m.size(1), 1);
        m.merge();
        for (int tree : NO_TREES) {
            CHECK.due("drop from tree " + tree, m.drop(tree, 8), false);
        }
        for (int path : NO_PATHS) {
            CHECK.due("drop at path " + path, m.drop(0, path), false);
        }
        CHECK.due("the result after refused drops", Check.file(m, 3, 8), "plain 2");
        CHECK.due("size after refused drops", m.size(0), 2);
    }

    private static void copyTakesAll() {
        RenameMerge m = new RenameMerge(50);
        m.put(0, 1, 0x21, false);
        m.put(0, 2, 0x3, true);
        m.put(1, 50, 0x4, false);
        CHECK.due("copy", m.copy(0, 1), true);
        CHECK.due("a copied file", Check.file(m, 1, 1), "plain 1 2");
        CHECK.due("a copied link", Check.file(m, 1, 2), "link 3");
        CHECK.due("what was there before", Check.file(m, 1, 50), "none");
        CHECK.due("size", m.size(1), 2);
        CHECK.due("copy onto itself", m.copy(1, 1), true);
        CHECK.due("size after that", m.size(1), 2);
        m.put(0, 1, 0x5, false);
        m.drop(0, 2);
        CHECK.due("a copy stays when its tree changes", Check.file(m, 1, 1), "plain 1 2");
        CHECK.due("a copy stays when its tree loses a file", Check.file(m, 1, 2), "link 3");
        CHECK.due("copy of an empty tree", m.copy(2, 0), true);
        CHECK.due("size of it", m.size(0), 0);
    }

    private static void copyRefuses() {
        RenameMerge m = new RenameMerge(50);
        Check.everywhere(m, 1, 0x1);
        m.merge();
        Check.everywhere(m, 1, 0x2);
        for (int tree : NO_TREES) {
            CHECK.due("copy from " + tree, m.copy(tree, 0), false);
            CHECK.due("copy to " + tree, m.copy(0, tree), false);
            CHECK.due("copy from and to " + tree, m.copy(tree, tree), false);
        }
        CHECK.due("the tree after refused copies", Check.file(m, 0, 1), "plain 2");
        CHECK.due("the result after refused copies", Check.file(m, 3, 1), "plain 1");
    }

    private static void readsWhatIsNotThere() {
        RenameMerge m = new RenameMerge(50);
        Check.everywhere(m, 0, 0x21);
        Check.everywhere(m, 63, 0x3);
        m.merge();
        for (int tree : new int[] {-1, 4, Integer.MIN_VALUE, Integer.MAX_VALUE}) {
            CHECK.due("size of tree " + tree, m.size(tree), RenameMerge.NONE);
            CHECK.due("kind in tree " + tree, m.kind(tree, 0), 0);
            CHECK.due("length in tree " + tree, m.length(tree, 0), RenameMerge.NONE);
            CHECK.due("line in tree " + tree, m.line(tree, 0, 0), 0);
        }
        for (int tree = 0; tree <= 3; tree++) {
            for (int path : NO_PATHS) {
                CHECK.due("kind at path " + path, m.kind(tree, path), 0);
                CHECK.due("length at path " + path, m.length(tree, path), RenameMerge.NONE);
                CHECK.due("line at path " + path, m.line(tree, path, 0), 0);
            }
            CHECK.due("size", m.size(tree), 2);
            CHECK.due("the last line", m.line(tree, 0, 1), 2);
            for (int i : new int[] {-1, 2, 8, 76, Integer.MIN_VALUE, Integer.MAX_VALUE}) {
                CHECK.due("line " + i, m.line(tree, 0, i), 0);
            }
        }
    }
}
