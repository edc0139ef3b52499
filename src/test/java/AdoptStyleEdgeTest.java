/**
 * The boundary cases of the promises 5 adopt and 6 style, and of an object's 512 calls: for each sentence of the
 * document that names one a test of its own, at the boundary and one step to either side of it.
 */
public final class AdoptStyleEdgeTest {
    private static final Check CHECK = new Check();
    /** What is beyond 0 .. 2, one step and many. */
    private static final int[] BEYOND = {-1, 3, 4, 256, Integer.MIN_VALUE, Integer.MAX_VALUE};
    private static final int MOST_CALLS = 512;

    public static void main(String[] args) {
        CHECK.sentence("Tree 0, 1 or 2 becomes what the RESULT is (which stays).",
                AdoptStyleEdgeTest::becomesTheResult);
        CHECK.sentence("false, changing nothing, when tree is not 0 .. 2", AdoptStyleEdgeTest::adoptRefusesTrees);
        CHECK.sentence("there was no merge yet", AdoptStyleEdgeTest::adoptRefusesBeforeAMerge);
        CHECK.sentence("or the RESULT has more than 8 files", AdoptStyleEdgeTest::adoptRefusesManyFiles);
        CHECK.sentence("or a text of more than 8 lines.", AdoptStyleEdgeTest::adoptRefusesLongTexts);
        CHECK.sentence("The style of the merges that follow.", AdoptStyleEdgeTest::styleOfWhatFollows);
        CHECK.sentence("false, changing nothing, when s is not 0 .. 2.", AdoptStyleEdgeTest::styleRefuses);
        CHECK.sentence("An object is used for at most 512 calls after it has been made",
                AdoptStyleEdgeTest::takes512Calls);
        CHECK.end();
    }

    private static void becomesTheResult() {
        for (int tree = 0; tree <= 2; tree++) {
            RenameMerge m = Scene.merged(50, "5:1", "5:2 0~3", "5:1 63:");
            Scene.lay(m, tree, "9:9");
            CHECK.due("adopt", m.adopt(tree), true);
            CHECK.due("the tree", Scene.tree(m, tree), "0~3 5:2 63:");
            CHECK.due("the result", Scene.tree(m, 3), "0~3 5:2 63:");
            m.drop(tree, 5);
            CHECK.due("the result stays when the tree changes", Scene.tree(m, 3), "0~3 5:2 63:");
        }
        RenameMerge m = Scene.merged(50, "5:1", "", "5:1");
        CHECK.due("adopt of an empty result", m.adopt(2), true);
        CHECK.due("an empty tree", m.size(2), 0);
    }

    private static void adoptRefusesTrees() {
        RenameMerge m = Scene.merged(50, "5:1", "5:2", "5:1");
        for (int tree : BEYOND) {
            CHECK.due("adopt into " + tree, m.adopt(tree), false);
        }
        CHECK.due("BASE", Scene.tree(m, 0), "5:1");
        CHECK.due("OURS", Scene.tree(m, 1), "5:2");
        CHECK.due("THEIRS", Scene.tree(m, 2), "5:1");
        CHECK.due("RESULT", Scene.tree(m, 3), "5:2");
        for (int tree = 0; tree <= 2; tree++) {
            CHECK.due("adopt into " + tree, m.adopt(tree), true);
        }
    }

    private static void adoptRefusesBeforeAMerge() {
        RenameMerge m = Scene.laid(50, "5:1", "5:2", "5:3");
        for (int tree = 0; tree <= 2; tree++) {
            CHECK.due("before a merge", m.adopt(tree), false);
            CHECK.due("the tree stays", Scene.tree(m, tree), "5:" + (tree + 1));
        }
        m.merge();
        CHECK.due("after one", m.adopt(0), true);
        CHECK.due("the tree", Scene.tree(m, 0), "5:<2=3>");
        m = new RenameMerge(50);
        CHECK.due("of empty trees before a merge", m.adopt(0), false);
        m.merge();
        CHECK.due("of empty trees after one", m.adopt(0), true);
    }

    private static void adoptRefusesManyFiles() {
        for (int tree = 0; tree <= 2; tree++) {
            RenameMerge m = Scene.merged(50, "", "0:1 1:1 2:1 3:1 4:1", "5:2 6:2");
            CHECK.due("files", m.size(3), 7);
            CHECK.due("7 files", m.adopt(tree), true);
            CHECK.due("the tree", m.size(tree), 7);
            m = Scene.merged(50, "", "0:1 1:1 2:1 3:1 4:1", "5:2 6:2 63:2");
            CHECK.due("files", m.size(3), 8);
            CHECK.due("8 files", m.adopt(tree), true);
            CHECK.due("the tree", m.size(tree), 8);
            m = Scene.merged(50, "", "0:1 1:1 2:1 3:1 4:1", "5:2 6:2 62:2 63:2");
            CHECK.due("files", m.size(3), 9);
            CHECK.due("9 files", m.adopt(tree), false);
            CHECK.due("the tree stays", m.size(tree), new int[] {0, 5, 4}[tree]);
        }
        RenameMerge full = Scene.merged(50, "", "0:1 1:1 2:1 3:1 4:1 5:1 6:1 7:1",
                "8:1 9:1 10:1 11:1 12:1 13:1 14:1 63:1");
        CHECK.due("16 files", full.adopt(0), false);
        full.copy(0, 2);
        CHECK.due("the result is still of 16 files", full.adopt(0), false);
        full.merge();
        CHECK.due("now of 8", full.adopt(0), true);
    }

    /** A conflict of style 0 has three marks: two and three lines make 8, three and three make 9. */
    private static void adoptRefusesLongTexts() {
        for (int tree = 0; tree <= 2; tree++) {
            RenameMerge m = Scene.merged(50, "5:1", "5:23", "5:45");
            CHECK.due("7 lines", m.adopt(tree), true);
            CHECK.due("the tree", Scene.tree(m, tree), "5:<23=45>");
            m = Scene.merged(50, "5:1", "5:23", "5:456");
            CHECK.due("8 lines", m.adopt(tree), true);
            CHECK.due("the tree", Scene.tree(m, tree), "5:<23=456>");
            m = Scene.merged(50, "5:1", "5:234", "5:567");
            CHECK.due("9 lines", m.adopt(tree), false);
            CHECK.due("the tree stays", Scene.tree(m, tree), new String[] {"5:1", "5:234", "5:567"}[tree]);
            m = Scene.merged(50, "0:1 5:1 63:1", "0:2 5:234 63:2", "0:1 5:567 63:1");
            CHECK.due("9 lines between short texts", m.adopt(tree), false);
            m = Scene.merged(50, "0:1 63:1", "0:2 63:234", "0:1 63:567");
            CHECK.due("9 lines at the last path", m.adopt(tree), false);
            m = Scene.merged(50, "0:1 63:1", "0:234 63:2", "0:567 63:1");
            CHECK.due("9 lines at the first path", m.adopt(tree), false);
            m = Scene.merged(50, "5:1234567", "5:81234567", "5:12345679");
            CHECK.due("9 lines without marks", m.adopt(tree), false);
        }
    }

    private static String merged(RenameMerge m) {
        m.merge();
        return Scene.file(m, 3, 5);
    }

    private static void styleOfWhatFollows() {
        RenameMerge m = Scene.laid(50, "5:1", "5:23", "5:24");
        CHECK.due("a new object's", merged(m), ":<23=24>");
        CHECK.due("style(1)", m.style(1), true);
        CHECK.due("the merge before it", Scene.file(m, 3, 5), ":<23=24>");
        CHECK.due("in style 1", merged(m), ":<23|1=24>");
        CHECK.due("in style 1 again", merged(m), ":<23|1=24>");
        CHECK.due("style(2)", m.style(2), true);
        CHECK.due("the merge before it", Scene.file(m, 3, 5), ":<23|1=24>");
        CHECK.due("in style 2", merged(m), ":2<3|1=4>");
        CHECK.due("style(0)", m.style(0), true);
        CHECK.due("in style 0", merged(m), ":<23=24>");
    }

    private static void styleRefuses() {
        String[] written = {":<23=24>", ":<23|1=24>", ":2<3|1=4>"};
        for (int s = 0; s <= 2; s++) {
            RenameMerge m = Scene.laid(50, "5:1", "5:23", "5:24");
            CHECK.due("style(" + s + ")", m.style(s), true);
            for (int wrong : BEYOND) {
                CHECK.due("style(" + wrong + ")", m.style(wrong), false);
                CHECK.due("the style stays " + s, merged(m), written[s]);
            }
        }
    }

    /** The dearest of calls before it, the 512th still answers as it must. */
    private static void takes512Calls() {
        RenameMerge m = Scene.laid(50, "5:1", "5:23", "5:24");
        int calls = 3;
        for (; calls < MOST_CALLS - 2; calls++) {
            m.merge();
        }
        CHECK.due("call 511", m.merge(), 1);
        CHECK.due("call 512", m.line(3, 5, 1), 2);
    }
}
