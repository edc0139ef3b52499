/**
 * The boundary cases of A MERGE and of CONFLICT CODES, and so of the promises 7, 12, 13 and 14: for each
 * sentence of the document that names one a test of its own, and one step to either side of it.
 */
public final class MergeEdgeTest {
    private static final Check CHECK = new Check();
    private static final int NONE = RenameMerge.NONE;
    private static final int CONTENT = 1;
    private static final int ADDED = 2;
    private static final int KINDS = 8;
    private static final int GONE = 16;
    private static final int TWICE = 32;
    private static final int ONTO = 64;

    public static void main(String[] args) {
        renamedByBoth();
        renamedByOne();
        results();
        codes();
        CHECK.end();
    }

    private static void expect(RenameMerge m, String result, String conflicts) {
        CHECK.due("the result", Scene.tree(m, 3), result);
        CHECK.due("the conflicts", Scene.conflicts(m), conflicts);
    }

    private static void expectStaged(RenameMerge m, int path, String staged) {
        CHECK.due("staged at " + path, Scene.staged(m, path), staged);
    }

    /** The files of the versions 0, s and t in words, as Scene writes what is staged. */
    private static String inOrder(int side, String base, String own, String other) {
        return base + " " + (side == 1 ? own + " " + other : other + " " + own);
    }

    private static void renamedByBoth() {
        CHECK.sentence("from the trees as they are", MergeEdgeTest::fromTheTrees);
        CHECK.sentence("if x1 = x2, V0's file at p goes to x1", MergeEdgeTest::bothToOne);
        CHECK.sentence("to files that stand at x1 (of side 1) and x2 (of side 2)", MergeEdgeTest::bothToOneStand);
        CHECK.sentence("if not, there is a conflict TWICE at p, at x1 and at x2, and nothing goes.",
                MergeEdgeTest::bothToTwo);
        CHECK.sentence("if not, there is a conflict TWICE at p, at x1 and at x2, and nothing goes.",
                MergeEdgeTest::bothToTwoStands);
    }

    /** A file that is to stand at y does not take y from what is found: both see the trees, not the versions. */
    private static void fromTheTrees() {
        for (int side = 1; side <= 2; side++) {
            RenameMerge m = Scene.mergedBy(side, "8~1 40~2", "56~1 40~2", "8~1 13~2 14:6");
            CHECK.due("renamed to the path in the tree", Scene.renames(m, 3 - side), "40>13");
            CHECK.due("the place of 5 by that path", Scene.places(m, 3 - side), "5>1");
            CHECK.due("stands", Scene.moved(m, 3 - side), "13>61 14>62");
            expect(m, "56~1 61~2 62:6", "");
        }
    }

    private static void bothToOne() {
        RenameMerge m = Scene.merged(50, "1:1234", "9:1235", "9:6234");
        expect(m, "9:6235", "");
        m = Scene.merged(50, "1:1234", "9:1235", "9:1236");
        expect(m, "9:123<5=6>", "9:1");
        expectStaged(m, 9, "(1234) (1235) (1236)");
        m = Scene.merged(50, "1~12", "9~12", "9~12");
        expect(m, "9~12", "");
        m = Scene.merged(50, "0:12", "63:12", "63:12");
        expect(m, "63:12", "");
    }

    /** Two targets, 21 and 13, of which the files stand at 61 both. */
    private static void bothToOneStand() {
        RenameMerge m = Scene.merged(50, "8~1 16~2 40:1234", "56~1 16~2 21:1235", "8~1 57~2 13:6234");
        CHECK.due("the target of side 1", m.renamed(1, 40), 21);
        CHECK.due("the target of side 2", m.renamed(2, 40), 13);
        CHECK.due("the stand of side 1", m.stands(1, 21), 61);
        CHECK.due("the stand of side 2", m.stands(2, 13), 61);
        expect(m, "56~1 57~2 61:6235", "");
    }

    private static void bothToTwo() {
        RenameMerge m = Scene.laid(50, "1:1234", "9:1235", "10:6234");
        CHECK.due("paths with a conflict", m.merge(), 3);
        expect(m, "9:1235 10:6234", "1:32 9:32 10:32");
        expectStaged(m, 1, "(1234) none none");
        expectStaged(m, 9, "none (1235) none");
        expectStaged(m, 10, "none none (6234)");
        m = Scene.merged(50, "1:1234", "9:1234", "10:1234");
        expect(m, "9:1234 10:1234", "1:32 9:32 10:32");
        m = Scene.merged(50, "0~1", "62~1", "63~1");
        expect(m, "62~1 63~1", "0:32 62:32 63:32");
    }

    /** The conflict is where the file of side 1 stands, at 61, and not at its target 21. */
    private static void bothToTwoStands() {
        RenameMerge m = Scene.merged(50, "16~2 40:1234", "16~2 21:1235", "57~2 30:6234");
        CHECK.due("the stand of side 1", m.stands(1, 21), 61);
        expect(m, "30:6234 57~2 61:1235", "30:32 40:32 61:32");
        expectStaged(m, 61, "none (1235) none");
        m = Scene.merged(50, "16~2 40:1234", "57~2 30:6234", "16~2 21:1235");
        expect(m, "30:6234 57~2 61:1235", "30:32 40:32 61:32");
    }

    private static void renamedByOne() {
        CHECK.sentence("for each path p in rising order that is renamed by a side", MergeEdgeTest::eachRenamedPath);
        CHECK.sentence("V_t has a file at p: if V_t has none at x, V0's and V_t's files at p go to x",
                MergeEdgeTest::goesToX);
        CHECK.sentence("if it has one there, the file of V_s at x becomes the file merge (at x)", MergeEdgeTest::onto);
        CHECK.sentence("if it has one there, the file of V_s at x becomes the file merge (at x)",
                MergeEdgeTest::ontoWhereItStands);
        CHECK.sentence("side 1's as A and side 2's as B", MergeEdgeTest::ontoInOrder);
        CHECK.sentence("V0's and V_t's files at p are taken away", MergeEdgeTest::ontoTakesAway);
        CHECK.sentence("there is a conflict ONTO at x (besides the one of the file merge, if any)",
                MergeEdgeTest::ontoBesides);
        CHECK.sentence("V_t has none at p: conflict GONE at x, and V0's file at p goes to x", MergeEdgeTest::gone);
        CHECK.sentence("or is taken away if V_t has a file at x.", MergeEdgeTest::goneWithAFile);
    }

    private static void eachRenamedPath() {
        for (int p = 0; p < 64; p++) {
            int x = (p + 9) % 64;
            RenameMerge m = Scene.merged(50, p + ":1234", x + ":1235", p + ":6234");
            expect(m, x + ":6235", "");
            m = Scene.merged(50, p + ":1234", p + ":6234", x + ":1235");
            expect(m, x + ":6235", "");
            m = Scene.merged(50, p + ":1234", x + ":1235", x + ":6234");
            expect(m, x + ":6235", "");
        }
    }

    private static void goesToX() {
        for (int side = 1; side <= 2; side++) {
            RenameMerge m = Scene.mergedBy(side, "1:1234", "9:1235", "1:6234");
            expect(m, "9:6235", "");
            m = Scene.mergedBy(side, "1:1234", "9:1235", "1:1234");
            expect(m, "9:1235", "");
            m = Scene.mergedBy(side, "1:1234", "9:1234", "1:6234");
            expect(m, "9:6234", "");
            m = Scene.mergedBy(side, "1:1234", "9:1235", "1:1236 8:7 10:8");
            expect(m, side == 1 ? "8:7 9:123<5=6> 10:8" : "8:7 9:123<6=5> 10:8", "9:1");
            expectStaged(m, 9, inOrder(side, "(1234)", "(1235)", "(1236)"));
            m = Scene.mergedBy(side, "0:1234", "63:1234", "0~12");
            expect(m, "63~12", "");
        }
    }

    private static void onto() {
        for (int side = 1; side <= 2; side++) {
            RenameMerge m = Scene.mergedBy(side, "1:1234", "9:1235", "1:6234 9:ab");
            expect(m, side == 1 ? "9:<6235=ab>" : "9:<ab=6235>", "9:66");
            expectStaged(m, 9, inOrder(side, "none", "(6235)", "(ab)"));
            m = Scene.mergedBy(side, "1:1234", "9:1234", "1:6234 9:ab");
            expectStaged(m, 9, inOrder(side, "none", "(6234)", "(ab)"));
            m = Scene.mergedBy(side, "1:1234", "9:1235", "1:1234 9:ab");
            expectStaged(m, 9, inOrder(side, "none", "(1235)", "(ab)"));
            m = Scene.mergedBy(side, "1:1234", "9:1235", "1:1235 9:ab");
            expectStaged(m, 9, inOrder(side, "none", "(1235)", "(ab)"));
            m = Scene.mergedBy(side, "1:1234", "9:1235", "1:6234 10:ab");
            expect(m, "9:6235 10:ab", "");
        }
    }

    /** Nothing is at 61 in any tree, but files of both sides stand there. */
    private static void ontoWhereItStands() {
        RenameMerge m = Scene.merged(50, "8~1 16~2 40:1234", "56~1 16~2 21:1235", "8~1 57~2 13:ab 40:6234");
        CHECK.due("the stand of side 1", m.stands(1, 21), 61);
        CHECK.due("the stand of side 2", m.stands(2, 13), 61);
        expect(m, "56~1 57~2 61:<6235=ab>", "61:66");
        expectStaged(m, 61, "none (6235) (ab)");
    }

    private static void ontoInOrder() {
        RenameMerge m = Scene.merged(50, "1:1234", "9:1235", "1:1236 9:ab");
        expectStaged(m, 9, "none (123<5=6>) (ab)");
        m = Scene.merged(50, "1:1234", "1:1236 9:ab", "9:1235");
        expectStaged(m, 9, "none (ab) (123<6=5>)");
        m = Scene.merged(50, "1:1234", "9:1235", "1~1236 9:ab");
        expectStaged(m, 9, "none (1235) (ab)");
        m = Scene.merged(50, "1:1234", "1~1236 9:ab", "9:1235");
        expectStaged(m, 9, "none (ab) (1236)");
    }

    private static void ontoTakesAway() {
        for (int side = 1; side <= 2; side++) {
            RenameMerge m = Scene.mergedBy(side, "1:1234", "9:1235", "1:6234 9:ab");
            CHECK.due("no file at p", m.kind(3, 1), 0);
            CHECK.due("no conflict at p", m.conflict(1), 0);
            CHECK.due("nothing staged at p", Scene.staged(m, 1), "none none none");
            CHECK.due("no V0 at x", m.staged(0, 9), NONE);
            CHECK.due("the files beside p are merged as ever", Scene.conflicts(
                    Scene.mergedBy(side, "0:1 1:1234 2:2", "0:1 2:2 9:1235", "0:3 2:4 1:1234 9:")), "9:" + ONTO);
            CHECK.due("one file", m.size(3), 1);
            CHECK.due("the tree stays", Scene.tree(m, 3 - side), "1:6234 9:ab");
            CHECK.due("BASE stays", Scene.tree(m, 0), "1:1234");
        }
    }

    private static void ontoBesides() {
        for (int side = 1; side <= 2; side++) {
            RenameMerge m = Scene.mergedBy(side, "1:1234", "9:1235", "1:6234 9:6235");
            expect(m, "9:6235", "9:" + ONTO);
            m = Scene.mergedBy(side, "1:1234", "9:1235", "1:6234 9:");
            expect(m, "9:6235", "9:" + ONTO);
            m = Scene.mergedBy(side, "1:1234", "9:1235", "1:6234 9:ab");
            CHECK.due("with the one of the result", m.conflict(9), ONTO + ADDED);
            m = Scene.mergedBy(side, "1:1234", "9:1235", "1:1236 9:");
            CHECK.due("with CONTENT alone", m.conflict(9), ONTO + CONTENT);
            m = Scene.mergedBy(side, "1:1234", "9:1235", "1:1236 9:ab");
            CHECK.due("with both", m.conflict(9), ONTO + CONTENT + ADDED);
            m = Scene.mergedBy(side, "1:1234", "9:1235", "1~6234 9:ab");
            CHECK.due("with KINDS", m.conflict(9), ONTO + KINDS + (side == 1 ? ADDED : 0));
        }
    }

    private static void gone() {
        for (int side = 1; side <= 2; side++) {
            RenameMerge m = Scene.mergedBy(side, "1:1234", "9:1235", "");
            expect(m, "9:1235", "9:" + GONE);
            expectStaged(m, 9, inOrder(side, "(1234)", "(1235)", "none"));
            expectStaged(m, 1, "none none none");
            m = Scene.mergedBy(side, "1:1234", "9:1235", "8:7 10:8");
            expect(m, "8:7 9:1235 10:8", "9:" + GONE);
            m = Scene.mergedBy(side, "1:1234", "9:1235", "1:");
            expect(m, side == 1 ? "9:<1235=>" : "9:<=1235>", "9:" + CONTENT);
        }
    }

    private static void goneWithAFile() {
        for (int side = 1; side <= 2; side++) {
            RenameMerge m = Scene.mergedBy(side, "1:1234", "9:1235", "9:ab");
            expect(m, side == 1 ? "9:<1235=ab>" : "9:<ab=1235>", "9:" + (GONE + ADDED));
            expectStaged(m, 9, inOrder(side, "none", "(1235)", "(ab)"));
            m = Scene.mergedBy(side, "1:1234", "9:1235", "9:");
            expect(m, "9:1235", "9:" + GONE);
            expectStaged(m, 9, inOrder(side, "none", "(1235)", "()"));
            m = Scene.mergedBy(side, "1:1234", "9:1234", "9~1234");
            expect(m, side == 1 ? "9:1234" : "9~1234", "9:" + (GONE + KINDS));
            m = Scene.mergedBy(side, "0:1 1:1234 2:2", "0:1 2:2 9:1234", "0:3 2:4 9~1234");
            CHECK.due("the files beside p are merged as ever", Scene.conflicts(m), "9:" + (GONE + KINDS));
        }
    }

    private static void results() {
        CHECK.sentence("at each path x the file merge of V0's, V1's and V2's files at x", MergeEdgeTest::eachPath);
        CHECK.sentence("but where there is a conflict GONE and V1 or V2 has no file, the file of the other of these"
                + " two, with no further conflict.", MergeEdgeTest::goneAndNoFile);
        CHECK.sentence("(A text of the RESULT has at most 76 lines.)", MergeEdgeTest::longestText);
        CHECK.sentence("(A text of the RESULT has at most 76 lines.)", MergeEdgeTest::longestTextInOtherStyles);
        CHECK.sentence("Merges OURS and THEIRS over BASE; these three stay", MergeEdgeTest::treesStay);
        CHECK.sentence("(and stay so, whatever becomes of the trees, till the next)", MergeEdgeTest::toldStays);
        String latest = "the RESULT and all that is told of the latest merge become this one's";
        CHECK.sentence(latest, MergeEdgeTest::nothingStaysAtAnyPath);
        CHECK.sentence(latest, MergeEdgeTest::mergesAsANewObject);
        CHECK.sentence("Answers the number of paths with a conflict.", MergeEdgeTest::answersPaths);
    }

    private static void eachPath() {
        for (int path = 0; path < 64; path++) {
            RenameMerge m = Scene.merged(50, path + ":1", path + ":2", path + ":3");
            CHECK.due("the result at " + path, Scene.tree(m, 3), path + ":<2=3>");
            CHECK.due("the conflict at " + path, m.conflict(path), CONTENT);
            expectStaged(m, path, "(1) (2) (3)");
        }
    }

    /** A file merge alone would take the file that is as in BASE away, and say DROPPED of a changed one. */
    private static void goneAndNoFile() {
        for (int side = 1; side <= 2; side++) {
            expect(Scene.mergedBy(side, "1:1234", "9:1234", ""), "9:1234", "9:" + GONE);
            expect(Scene.mergedBy(side, "1:1234", "9:1235", ""), "9:1235", "9:" + GONE);
            expect(Scene.mergedBy(side, "1~12", "9~12", ""), "9~12", "9:" + GONE);
            expect(Scene.mergedBy(side, "1:", "9:", ""), "9:", "9:" + GONE);
            expect(Scene.mergedBy(side, "9:1234", "9:1235", ""), "9:1235", "9:4");
            expect(Scene.mergedBy(side, "9:1234", "9:1234", ""), "", "");
            RenameMerge m = Scene.mergedBy(side, "1:1234", "9:1235", "9:ab");
            CHECK.due("with both files there is a further one", m.conflict(9), GONE + ADDED);
        }
    }

    private static final String LONG_1 = "<9|5=d>1<a|6=>2<|7=e>3<b|=f>4<c|8=e>";
    private static final String LONG_2 = "<d|5=9>4<|6=a>3<e|7=>2<f|=b>1<e|8=c>";

    /** Each side renames a file onto 40, and there each version is a merge of three full texts: 36 lines. */
    private static RenameMerge longest(int style, String lastOfTheirs) {
        RenameMerge m = Scene.laid(50, "1:51627348 2:54637218", "40:91a23b4c 2:d43e2f1e", "1:d12e3f4e");
        Scene.lay(m, 2, "40:94a32b1" + lastOfTheirs);
        m.style(style);
        m.merge();
        return m;
    }

    private static void longestText() {
        RenameMerge m = longest(1, "c");
        CHECK.due("the conflict", m.conflict(40), ONTO + CONTENT + ADDED);
        CHECK.due("version 1", m.staged(1, 40), 36);
        CHECK.due("version 2", m.staged(2, 40), 36);
        expectStaged(m, 40, "none (" + LONG_1 + ") (" + LONG_2 + ")");
        CHECK.due("76 lines", m.length(3, 40), 76);
        m = longest(1, "c");
        CHECK.due("each of them", Scene.file(m, 3, 40), ":<" + LONG_1 + "|=" + LONG_2 + ">");
        CHECK.due("line -1", m.line(3, 40, -1), 0);
        CHECK.due("line 0", m.line(3, 40, 0), 16);
        CHECK.due("line 74", m.line(3, 40, 74), 19);
        CHECK.due("line 75", m.line(3, 40, 75), 19);
        CHECK.due("line 76", m.line(3, 40, 76), 0);
        CHECK.due("line 77", m.line(3, 40, 77), 0);
        CHECK.due("it is too long for adopt", m.adopt(0), false);
        m = longest(1, "");
        CHECK.due("75 lines", m.length(3, 40), 75);
        CHECK.due("line 74 of 75", m.line(3, 40, 74), 19);
        CHECK.due("line 75 of 75", m.line(3, 40, 75), 0);
    }

    /** Style 2 takes the OPEN that both versions begin with, and the CLOSE that both end with, off both. */
    private static void longestTextInOtherStyles() {
        RenameMerge m = longest(0, "c");
        String ours = "<9=d>1<a=>2<=e>3<b=f>4<c=e>";
        String theirs = "<d=9>4<=a>3<e=>2<f=b>1<e=c>";
        CHECK.due("style 0", Scene.file(m, 3, 40), ":<" + ours + "=" + theirs + ">");
        CHECK.due("its lines", m.length(3, 40), 57);
        m = longest(2, "c");
        String leftOfOurs = LONG_1.substring(1, LONG_1.length() - 1);
        String leftOfTheirs = LONG_2.substring(1, LONG_2.length() - 1);
        CHECK.due("style 2", Scene.file(m, 3, 40), ":<<" + leftOfOurs + "|=" + leftOfTheirs + ">>");
        CHECK.due("its lines", m.length(3, 40), 74);
    }

    private static void treesStay() {
        RenameMerge m = Scene.merged(50, "1:1234 2:12", "9:1235 2:13", "1:1236 9:ab 2:14");
        CHECK.due("BASE", Scene.tree(m, 0), "1:1234 2:12");
        CHECK.due("OURS", Scene.tree(m, 1), "2:13 9:1235");
        CHECK.due("THEIRS", Scene.tree(m, 2), "1:1236 2:14 9:ab");
        m.merge();
        CHECK.due("the same again", Scene.tree(m, 3), "2:1<3=4> 9:<123<5=6>=ab>");
    }

    private static void toldStays() {
        RenameMerge m = Scene.merged(50, "8:1234 2:12", "16:1235 2:13", "8:1236 13:7 2:14");
        for (int path : new int[] {2, 8, 13, 16}) {
            for (int tree = 0; tree <= 2; tree++) {
                m.drop(tree, path);
                m.put(tree, path + 1, 0xF, true);
            }
        }
        CHECK.due("the result", Scene.tree(m, 3), "2:1<3=4> 16:123<5=6> 21:7");
        CHECK.due("the conflicts", Scene.conflicts(m), "2:1 16:1");
        expectStaged(m, 16, "(1234) (1235) (1236)");
        CHECK.due("renamed", Scene.renames(m, 1), "8>16");
        CHECK.due("newPlace", Scene.places(m, 1), "1>2");
        CHECK.due("stands", Scene.moved(m, 2), "13>21");
        m.merge();
        CHECK.due("the next result", Scene.tree(m, 3), "3~f 9~f 14~f 17~f");
        CHECK.due("its conflicts", Scene.conflicts(m), "");
        CHECK.due("what is staged", Scene.staged(m, 16), "none none none");
        CHECK.due("renamed in it", Scene.renames(m, 1), "");
    }

    /** Of a merge with files and conflicts at a path nothing is left when the trees are empty. */
    private static void nothingStaysAtAnyPath() {
        for (int path = 0; path < 64; path++) {
            int other = (path + 9) % 64;
            RenameMerge m = Scene.merged(50, path + ":1234", other + ":1235", "");
            CHECK.due("the conflict at " + other, m.conflict(other), GONE);
            m.drop(0, path);
            m.drop(1, other);
            CHECK.due("paths of empty trees", m.merge(), 0);
            CHECK.due("the result of empty trees", Scene.tree(m, 3), "");
            CHECK.due("the conflict", m.conflict(other), 0);
            CHECK.due("renamed", m.renamed(1, path), NONE);
            CHECK.due("newPlace", m.newPlace(1, path / 8), NONE);
            CHECK.due("stands", m.stands(1, other), NONE);
            Scene.lay(m, 2, other + ":7");
            Scene.lay(m, 1, other + ":8");
            m.merge();
            CHECK.due("what is staged next", Scene.staged(m, other), "none (8) (7)");
        }
    }

    /** Texts of all lengths on one object, long before short and short before long, as each on its own. */
    private static void mergesAsANewObject() {
        String[][] texts = {{"12345678", "12345679", "a2345678"}, {"122", "132", "1242"}, {"12", "132", "124"},
            {"11111111", "1111", "211111"}, {"1", "21", "13"}, {"12121212", "2121", "12123212"}, {"", "5", "6"},
            {"1212", "2123", "1312"}, {"123", "231", "1234"}, {"12341234", "43214321", "12344321"},
            {"12", "21", "123"}};
        for (int style = 0; style <= 2; style++) {
            RenameMerge used = new RenameMerge(50);
            used.style(style);
            for (String[] text : texts) {
                RenameMerge fresh = new RenameMerge(50);
                fresh.style(style);
                for (int tree = 0; tree <= 2; tree++) {
                    used.put(tree, 5, Scene.text(text[tree]), false);
                    fresh.put(tree, 5, Scene.text(text[tree]), false);
                }
                CHECK.due("paths with a conflict", used.merge(), fresh.merge());
                CHECK.due(text[0] + ", " + text[1] + ", " + text[2], Scene.file(used, 3, 5), Scene.file(fresh, 3, 5));
            }
        }
    }

    private static void answersPaths() {
        CHECK.due("none, empty trees", Scene.laid(50, "", "", "").merge(), 0);
        CHECK.due("none", Scene.laid(50, "1:1", "1:2", "1:1").merge(), 0);
        CHECK.due("one", Scene.laid(50, "1:1", "1:2", "1:3").merge(), 1);
        CHECK.due("one with several codes", Scene.laid(50, "1:1234", "9:1235", "1:1236 9:ab").merge(), 1);
        CHECK.due("two", Scene.laid(50, "0:1 63:1", "0:2 63:2", "0:3 63:3").merge(), 2);
        CHECK.due("three by one rename", Scene.laid(50, "1:1", "9:1", "17:1").merge(), 3);
        CHECK.due("eight", Scene.laid(50, "", "0:1 1:1 2:1 3:1 4:1 5:1 6:1 63:1",
                "0:2 1:2 2:2 3:2 4:2 5:2 6:2 63:2").merge(), 8);
        CHECK.due("24, each file renamed by both", Scene.laid(50, "0~1 1~2 2~3 3~4 4~5 5~6 6~7 7~8",
                "8~1 9~2 10~3 11~4 12~5 13~6 14~7 15~8", "56~1 57~2 58~3 59~4 60~5 61~6 62~7 63~8").merge(), 24);
    }

    private static void codes() {
        CHECK.sentence("1 CONTENT, 2 ADDED, 4 DROPPED, 8 KINDS, 16 GONE, 32 TWICE, 64 ONTO, 128 DIRECTORY",
                MergeEdgeTest::eachCodeAlone);
        String once = "each counts at most once at a path";
        CHECK.sentence(once, MergeEdgeTest::contentOnce);
        CHECK.sentence(once, MergeEdgeTest::kindsOnce);
        CHECK.sentence(once, MergeEdgeTest::goneOnce);
        CHECK.sentence(once, MergeEdgeTest::twiceOnce);
        CHECK.sentence(once, MergeEdgeTest::ontoOnce);
        CHECK.sentence("The sum of the codes of the conflicts at the path", MergeEdgeTest::sums);
        CHECK.sentence("Where a path has a conflict, the three versions' files there, as they were when the RESULT was"
                + " made, are STAGED.", MergeEdgeTest::stagesVersions);
        CHECK.sentence("0 when there are none, no such path, or no merge yet.", MergeEdgeTest::noConflictTold);
        CHECK.sentence("NONE when there is none (no such file, no conflict at the path, no such version or path, no"
                + " merge yet).", MergeEdgeTest::noStagedTold);
        CHECK.sentence("Line i of that file; 0 when there is none.", MergeEdgeTest::noStagedLineTold);
    }

    private static void eachCodeAlone() {
        CHECK.due("CONTENT", Scene.conflicts(Scene.merged(50, "1:1", "1:2", "1:3")), "1:1");
        CHECK.due("ADDED", Scene.conflicts(Scene.merged(50, "", "1:2", "1:3")), "1:2");
        CHECK.due("DROPPED", Scene.conflicts(Scene.merged(50, "1:1", "", "1:3")), "1:4");
        CHECK.due("KINDS", Scene.conflicts(Scene.merged(50, "1:1", "1~2", "1:3")), "1:8");
        CHECK.due("GONE", Scene.conflicts(Scene.merged(50, "1:1", "9:1", "")), "9:16");
        CHECK.due("TWICE", Scene.conflicts(Scene.merged(50, "1:1", "9:1", "17:1")), "1:32 9:32 17:32");
        CHECK.due("ONTO", Scene.conflicts(Scene.merged(50, "1:1", "9:1", "1:1 9:")), "9:64");
        CHECK.due("DIRECTORY", Scene.conflicts(Scene.merged(50, "8:1", "16:1 17:2", "8:1 9:3")), "9:128");
    }

    /** Both sides rename onto 40, and the line merges of both versions there are in conflict. */
    private static void contentOnce() {
        RenameMerge m = Scene.merged(50, "1:1234 2:5678", "40:1239 2:567a", "1:123b 40:567c");
        expectStaged(m, 40, "none (123<9=b>) (567<a=c>)");
        CHECK.due("the codes", m.conflict(40), ONTO + CONTENT + ADDED);
        m = Scene.merged(50, "1:1234 2:5678", "40:1239 2:567a", "1:1234 40:567c");
        expectStaged(m, 40, "none (1239) (567<a=c>)");
        CHECK.due("the codes, one of them in conflict", m.conflict(40), ONTO + CONTENT + ADDED);
        m = Scene.merged(50, "1:1234 2:5678", "40:1239 2:5678", "1:1234 40:567c");
        CHECK.due("the codes, none of them in conflict", m.conflict(40), ONTO + ADDED);
    }

    private static void kindsOnce() {
        RenameMerge m = Scene.merged(50, "1~12 2~34", "40~12 2:34", "1:12 40~34");
        expectStaged(m, 40, "none (12) (34)");
        CHECK.due("no KINDS in the versions", m.conflict(40), ONTO + ADDED);
        m = Scene.merged(50, "1:1234", "9:1235", "1~1234 9~ab");
        CHECK.due("KINDS in a version and in the result", m.conflict(9), ONTO + KINDS);
        m = Scene.merged(50, "1:1234", "9:1235", "1:1234 9~ab");
        CHECK.due("KINDS in the result alone", m.conflict(9), ONTO + KINDS);
        m = Scene.merged(50, "1:1234 2:5678", "40:1239 2~5678", "1~1234 40:567c");
        CHECK.due("KINDS in both versions", m.conflict(40), ONTO + KINDS);
    }

    private static void goneOnce() {
        RenameMerge m = Scene.merged(50, "1:1234 2:5678", "40:1235", "40:5679");
        expect(m, "40:<1235=5679>", "40:" + (GONE + ADDED));
        m = Scene.merged(50, "1:1234 2:5678", "40:1235 2:5678", "40:5679");
        CHECK.due("gone on one side, onto on the other", m.conflict(40), GONE + ONTO + ADDED);
    }

    private static void twiceOnce() {
        RenameMerge m = Scene.merged(50, "1:1234 2:5678", "30:1234 39:5678", "30:5678 39:1234");
        expect(m, "30:<1234=5678> 39:<5678=1234>", "1:32 2:32 30:" + (TWICE + ADDED) + " 39:" + (TWICE + ADDED));
        m = Scene.merged(50, "1:1234 2:5678", "30:1234 39:5678", "30:5678 47:1234");
        CHECK.due("at 30 twice, elsewhere once", Scene.conflicts(m), "1:32 2:32 30:34 39:32 47:32");
    }

    private static void ontoOnce() {
        RenameMerge m = Scene.merged(50, "1:1234 2:5678", "40:1235 2:5678", "1:1234 40:5679");
        expect(m, "40:<1235=5679>", "40:" + (ONTO + ADDED));
        m = Scene.merged(50, "1~12 2~12", "40~12 2~12", "1~12 40~12");
        CHECK.due("links that are equal", Scene.renames(m, 1) + ", " + Scene.renames(m, 2), "1>40, 2>40");
        expect(m, "40~12", "40:" + ONTO);
    }

    private static void sums() {
        RenameMerge m = Scene.merged(50, "8~1 9~2 40:1234", "16~1 25~2 40:1234", "8~1 9~2 13:1235");
        expect(m, "13:1235 16~1 25~2", "13:128");
        m = Scene.merged(50, "8~1 9~2 40:1234", "16~1 25~2", "8~1 9~2 13:1235");
        expect(m, "13:1235 16~1 25~2", "13:144");
        m = Scene.merged(50, "8~1 9~2 40:1234", "16~1 25~2 50:1234", "8~1 9~2 13:1235");
        expect(m, "13:1235 16~1 25~2 50:1234", "13:160 40:32 50:32");
        m = Scene.merged(50, "1:1234 2:5678", "40:1235 2~5678", "40:5679");
        CHECK.due("GONE, ONTO, KINDS and what the result adds", m.conflict(40), GONE + ONTO + KINDS);
    }

    private static void stagesVersions() {
        RenameMerge m = Scene.merged(50, "1:1234 2~1 3:1 4:1", "9:1235 2~2 3:2 4:1", "1:6236 2~3 4:2");
        CHECK.due("the conflicts", Scene.conflicts(m), "2:8 3:4 9:1");
        expectStaged(m, 9, "(1234) (1235) (6236)");
        expectStaged(m, 1, "none none none");
        expectStaged(m, 2, "(1) (2) (3)");
        expectStaged(m, 3, "(1) (2) none");
        expectStaged(m, 4, "none none none");
    }

    private static void noConflictTold() {
        RenameMerge m = Scene.laid(50, "0:1 63:1", "0:2 63:2", "0:3 63:3");
        CHECK.due("no merge yet", m.conflict(0), 0);
        m.merge();
        CHECK.due("path -1", m.conflict(-1), 0);
        CHECK.due("path 0", m.conflict(0), CONTENT);
        CHECK.due("path 1, none", m.conflict(1), 0);
        CHECK.due("path 62, none", m.conflict(62), 0);
        CHECK.due("path 63", m.conflict(63), CONTENT);
        CHECK.due("path 64", m.conflict(64), 0);
        CHECK.due("the least number", m.conflict(Integer.MIN_VALUE), 0);
        CHECK.due("the greatest number", m.conflict(Integer.MAX_VALUE), 0);
    }

    private static void noStagedTold() {
        RenameMerge m = Scene.laid(50, "0:1 5:1 63:1", "0:22 5:2 63:", "0:333 5:1 63:3");
        CHECK.due("no merge yet", m.staged(0, 0), NONE);
        m.merge();
        int[] lengths = {NONE, 1, 2, 3, NONE, NONE};
        for (int version = -1; version <= 4; version++) {
            CHECK.due("version " + version, m.staged(version, 0), lengths[version + 1]);
            CHECK.due("no conflict", m.staged(version, 5), NONE);
            CHECK.due("no file", m.staged(version, 6), NONE);
            for (int path : new int[] {Integer.MIN_VALUE, -1, 64, 65, Integer.MAX_VALUE}) {
                CHECK.due("path " + path, m.staged(version, path), NONE);
            }
        }
        CHECK.due("an empty file", m.staged(1, 63), 0);
        CHECK.due("the last path", m.staged(2, 63), 1);
        CHECK.due("the least number", m.staged(Integer.MIN_VALUE, 0), NONE);
        CHECK.due("the greatest number", m.staged(Integer.MAX_VALUE, 0), NONE);
        m = Scene.merged(50, "5:1", "", "5:2");
        CHECK.due("no such file", Scene.staged(m, 5), "(1) none (2)");
    }

    private static void noStagedLineTold() {
        RenameMerge m = Scene.laid(50, "0:1 5:1 63:1", "0:24 5:2 63:", "0:356 5:1 63:3");
        CHECK.due("no merge yet", m.stagedLine(0, 0, 0), 0);
        m.merge();
        for (int version = -1; version <= 4; version++) {
            int lines = version < 0 || version > 2 ? 0 : version + 1;
            CHECK.due("line -1 of version " + version, m.stagedLine(version, 0, -1), 0);
            CHECK.due("line 0 of version " + version, m.stagedLine(version, 0, 0), lines);
            CHECK.due("behind the last line of version " + version, m.stagedLine(version, 0, lines), 0);
            CHECK.due("no conflict", m.stagedLine(version, 5, 0), 0);
            CHECK.due("no file", m.stagedLine(version, 6, 0), 0);
            for (int wrong : new int[] {Integer.MIN_VALUE, -1, 64, 65, Integer.MAX_VALUE}) {
                CHECK.due("path " + wrong, m.stagedLine(version, wrong, 0), 0);
                CHECK.due("line " + wrong, m.stagedLine(version, 0, wrong), 0);
            }
        }
        CHECK.due("the last line of version 1", m.stagedLine(1, 0, 1), 4);
        CHECK.due("the last line of version 2", m.stagedLine(2, 0, 2), 6);
        CHECK.due("an empty file", m.stagedLine(1, 63, 0), 0);
        CHECK.due("the last path", m.stagedLine(2, 63, 0), 3);
        m = longest(1, "c");
        CHECK.due("line 35 of 36", m.stagedLine(1, 40, 35), 19);
        CHECK.due("line 36 of 36", m.stagedLine(1, 40, 36), 0);
    }
}
