/** Promise 5: a tree becomes what the result is, if it is small enough. */
public final class AdoptTest {
    private static final Check CHECK = new Check();

    public static void main(String[] args) {
        takesTheResult();
        takesMarksAsLines();
        refusesWrongTrees();
        refusesLongTexts();
        refusesManyFiles();
        CHECK.end();
    }

    private static void takesTheResult() {
        for (int tree = 0; tree <= 2; tree++) {
            RenameMerge m = new RenameMerge(50);
            Check.everywhere(m, 1, 0x321);
            m.put(1, 1, 0x3214, false);
            m.put(2, 2, 0x5, true);
            m.put(tree, 40, 0x6, false);
            m.copy(tree, tree);
            m.merge();
            m.put(tree, 41, 0x7, false);
            int resultSize = m.size(3);
            CHECK.due("adopt", m.adopt(tree), true);
            CHECK.due("an adopted file", Check.file(m, tree, 1), "plain 4 1 2 3");
            CHECK.due("an adopted link", Check.file(m, tree, 2), "link 5");
            CHECK.due("what the result does not have", Check.file(m, tree, 41), "none");
            CHECK.due("size", m.size(tree), resultSize);
            m.put(tree, 1, 0x9, false);
            CHECK.due("the result stays", Check.file(m, 3, 1), "plain 4 1 2 3");
            CHECK.due("its size stays", m.size(3), resultSize);
        }
    }

    /** A clash of 8 lines may be adopted; its marks are then lines like others, in scores too. */
    private static void takesMarksAsLines() {
        RenameMerge m = new RenameMerge(50);
        m.put(0, 1, 0x1, false);
        m.put(1, 1, 0x32, false);
        m.put(2, 1, 0x654, false);
        m.merge();
        CHECK.due("a clash of 8 lines", Check.file(m, 3, 1), "plain 16 2 3 18 4 5 6 19");
        CHECK.due("adopt", m.adopt(0), true);
        CHECK.due("its lines", Check.file(m, 0, 1), "plain 16 2 3 18 4 5 6 19");
        m.adopt(1);
        m.adopt(2);
        CHECK.due("the score of texts with marks", m.score(1, 1, 1), 100);
        m.put(2, 1, 0x65432, false);
        CHECK.due("the score without the marks", m.score(2, 1, 1), 62);
        CHECK.due("merge", m.merge(), 0);
        CHECK.due("the marks are taken away", Check.file(m, 3, 1), "plain 2 3 4 5 6");
    }

    private static void refusesWrongTrees() {
        RenameMerge m = new RenameMerge(50);
        CHECK.due("adopt before a merge", m.adopt(1), false);
        m.put(1, 1, 0x1, false);
        m.merge();
        for (int tree : new int[] {-1, 3, 4, Integer.MIN_VALUE, Integer.MAX_VALUE}) {
            CHECK.due("adopt into " + tree, m.adopt(tree), false);
        }
        CHECK.due("size(0)", m.size(0), 0);
        CHECK.due("size(2)", m.size(2), 0);
        CHECK.due("size(3)", m.size(3), 1);
    }

    private static void refusesLongTexts() {
        RenameMerge m = new RenameMerge(50);
        m.put(0, 1, 0x1, false);
        m.put(1, 1, 0x432, false);
        m.put(2, 1, 0x765, false);
        m.merge();
        CHECK.due("a text of 9 lines", m.length(3, 1), 9);
        CHECK.due("adopt", m.adopt(1), false);
        CHECK.due("the tree stays", Check.file(m, 1, 1), "plain 2 3 4");
    }

    private static void refusesManyFiles() {
        RenameMerge m = new RenameMerge(50);
        for (int i = 0; i < 8; i++) {
            m.put(1, i, 0x1, false);
        }
        m.merge();
        CHECK.due("adopt of 8 files", m.adopt(0), true);
        CHECK.due("size of them", m.size(0), 8);
        m.copy(2, 0);
        m.put(2, 63, 0x1, false);
        m.merge();
        CHECK.due("size of the result", m.size(3), 9);
        CHECK.due("adopt of 9 files", m.adopt(0), false);
        CHECK.due("the tree stays", m.size(0), 0);
        m.merge();
        m.drop(2, 63);
        CHECK.due("it is the result that counts", m.adopt(2), false);
    }
}
