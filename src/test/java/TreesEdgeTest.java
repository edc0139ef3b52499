/**
 * The boundary cases of FILES AND TREES and of the promises 1 to 4 and 8 to 11: for each sentence of the
 * document that names one a test of its own, at the boundary and one step to either side of it.
 */
public final class TreesEdgeTest {
    private static final Check CHECK = new Check();
    private static final int NONE = RenameMerge.NONE;
    private static final int LEAST = Integer.MIN_VALUE;
    private static final int GREATEST = Integer.MAX_VALUE;
    /** What is beyond 0 .. 2, one step and many. */
    private static final int[] NO_INPUTS = {-1, 3, 4, LEAST, GREATEST};
    /** What is beyond 0 .. 63, one step and many; the last ones would be paths after a wrap-around. */
    private static final int[] NO_PATHS = {-1, 64, 65, -63, LEAST, GREATEST, LEAST + 5, 5 - 64, 5 + 256};

    public static void main(String[] args) {
        filesAndTrees();
        thresholds();
        newObject();
        put();
        dropAndCopy();
        reading();
        CHECK.end();
    }

    private static void filesAndTrees() {
        CHECK.sentence("A TEXT is a list of LINES, numbered from 0", TreesEdgeTest::linesCountFrom0);
        CHECK.sentence("a line is a number 1 .. 19", TreesEdgeTest::linesAre1To19);
        CHECK.sentence("in a text they are lines like the others", TreesEdgeTest::marksAreLines);
        CHECK.sentence("two files are EQUAL when their kinds and their texts are equal", TreesEdgeTest::equalFiles);
        CHECK.sentence("A PATH is a number 0 .. 63", TreesEdgeTest::pathsAre0To63);
        CHECK.sentence("its DIRECTORY is path / 8", TreesEdgeTest::directoriesAreEights);
        CHECK.sentence("its NAME is path % 8", TreesEdgeTest::namesAreRests);
        CHECK.sentence("A tree has at most one file at a path.", TreesEdgeTest::oneFileAtAPath);
        CHECK.sentence("Trees 0 BASE, 1 OURS and 2 THEIRS have at most 8 files", TreesEdgeTest::atMost8Files);
        CHECK.sentence("and their texts at most 8 lines", TreesEdgeTest::atMost8Lines);
        CHECK.sentence("tree 3 is the RESULT of the latest merge", TreesEdgeTest::resultOfTheLatest);
        CHECK.sentence("empty before the first one", TreesEdgeTest::resultEmptyAtFirst);
        CHECK.sentence("The SIDES are 1 and 2", TreesEdgeTest::sidesAre1And2);
        CHECK.sentence("the other side of 1 is 2, that of 2 is 1.", TreesEdgeTest::otherSides);
    }

    private static void linesCountFrom0() {
        RenameMerge m = Scene.merged(50, "7:123", "7:123", "7:123");
        for (int tree = 0; tree <= 3; tree++) {
            CHECK.due("line -1", m.line(tree, 7, -1), 0);
            CHECK.due("line 0", m.line(tree, 7, 0), 1);
            CHECK.due("line 1", m.line(tree, 7, 1), 2);
            CHECK.due("line 2, the last", m.line(tree, 7, 2), 3);
            CHECK.due("line 3", m.line(tree, 7, 3), 0);
        }
    }

    private static void linesAre1To19() {
        RenameMerge m = new RenameMerge(50);
        for (int digit = 0; digit <= 15; digit++) {
            m.put(0, 5, digit, false);
            CHECK.due("the lines of digit " + digit, m.length(0, 5), digit == 0 ? 0 : 1);
            CHECK.due("the line of digit " + digit, m.line(0, 5, 0), digit);
        }
        m = Scene.laid(50, "5:1", "5:f", "5:2");
        m.style(1);
        m.merge();
        int[] lines = {16, 15, 17, 1, 18, 2, 19};
        for (int i = 0; i < lines.length; i++) {
            CHECK.due("line " + i + " of a conflict", m.line(3, 5, i), lines[i]);
        }
    }

    /** Marks come into a tree by adopt alone; then they are paired, scored and compared as others are. */
    private static void marksAreLines() {
        RenameMerge m = Scene.merged(50, "", "1:2", "1:3");
        m.adopt(0);
        CHECK.due("BASE with marks", Scene.tree(m, 0), "1:<2=3>");
        Scene.lay(m, 1, "1:5");
        m.merge();
        m.adopt(1);
        CHECK.due("OURS with marks", Scene.tree(m, 1), "1:<5=3>");
        CHECK.due("a score with 4 of 5 lines, 3 of them marks", m.score(1, 1, 1), 80);
        Scene.lay(m, 2, "1:23");
        m.merge();
        m.adopt(2);
        CHECK.due("THEIRS with marks", Scene.tree(m, 2), "1:<<5==2>3");
        CHECK.due("a score with one of each mark", m.score(2, 1, 1), 62);
        m.merge();
        CHECK.due("OPEN is an anchor, MIDDLE and CLOSE are none", Scene.file(m, 3, 1), ":<<5==<5==2>>3");
        m = marksAtAnotherPath();
        CHECK.due("a file with marks is renamed", m.renamed(1, 1), 9);
    }

    private static RenameMerge marksAtAnotherPath() {
        RenameMerge m = Scene.merged(50, "", "1:2", "1:3");
        m.adopt(0);
        m.drop(1, 1);
        m.drop(2, 1);
        Scene.lay(m, 1, "9:2");
        Scene.lay(m, 2, "9:3");
        m.merge();
        m.adopt(1);
        CHECK.due("the marks of OURS", Scene.tree(m, 1), "9:<2=3>");
        m.copy(0, 2);
        m.merge();
        return m;
    }

    /** Links are renamed only where files are EQUAL, whatever their scores would be. */
    private static void equalFiles() {
        CHECK.due("equal", isExact("1~12", "9~12"), true);
        CHECK.due("another kind", isExact("1~12", "9:12"), false);
        CHECK.due("another kind, the other way", isExact("1:12", "9~12"), false);
        CHECK.due("another last line", isExact("1~12", "9~13"), false);
        CHECK.due("another first line", isExact("1~12", "9~32"), false);
        CHECK.due("another order", isExact("1~12", "9~21"), false);
        CHECK.due("a line more", isExact("1~12", "9~123"), false);
        CHECK.due("a line less", isExact("1~12", "9~1"), false);
        CHECK.due("both empty", isExact("1~", "9~"), true);
        CHECK.due("one empty", isExact("1~", "9~1"), false);
        CHECK.due("the other empty", isExact("1~1", "9~"), false);
        CHECK.due("both empty, of two kinds", isExact("1~", "9:"), false);
        CHECK.due("eight equal lines", isExact("1~12345678", "9~12345678"), true);
        CHECK.due("the eighth line is another", isExact("1~12345678", "9~12345679"), false);
    }

    private static boolean isExact(String source, String target) {
        return Scene.merged(1, source, target, "").renamed(1, 1) == 9;
    }

    private static void pathsAre0To63() {
        for (int tree = 0; tree <= 2; tree++) {
            RenameMerge m = new RenameMerge(50);
            CHECK.due("put at -1", m.put(tree, -1, 1, false), false);
            CHECK.due("put at 0", m.put(tree, 0, 1, false), true);
            CHECK.due("put at 1", m.put(tree, 1, 2, false), true);
            CHECK.due("put at 62", m.put(tree, 62, 3, false), true);
            CHECK.due("put at 63", m.put(tree, 63, 4, false), true);
            CHECK.due("put at 64", m.put(tree, 64, 5, false), false);
            CHECK.due("the tree", Scene.tree(m, tree), "0:1 1:2 62:3 63:4");
        }
        RenameMerge m = Scene.merged(50, "0:1 63:2", "0:3 63:4", "0:5 63:6");
        CHECK.due("the first and the last path in a merge", Scene.tree(m, 3), "0:<3=5> 63:<4=6>");
    }

    /** Directory d has the paths 8 * d to 8 * d + 7: what stays in it keeps it, what is beside it does not. */
    private static void directoriesAreEights() {
        for (int d = 0; d < 8; d++) {
            int e = d == 4 ? 5 : 4;
            String base = 8 * d + ":12 " + (8 * d + 7) + ":34";
            String ours = 8 * e + ":12 " + (8 * e + 7) + ":34";
            CHECK.due("both ends of " + d, Scene.merged(50, base, ours, base).newPlace(1, d), e);
            for (int stays = 8 * d - 2; stays <= 8 * d + 9; stays++) {
                if (stays != 8 * d && stays != 8 * d + 7 && stays / 8 != e && stays >= 0 && stays < 64) {
                    RenameMerge m = Scene.merged(50, base, ours + " " + stays + ":999", base);
                    CHECK.due(stays + " beside " + d, m.newPlace(1, d), stays / 8 == d ? NONE : e);
                }
            }
        }
    }

    private static void namesAreRests() {
        for (int name = 0; name < 8; name++) {
            int other = (name + 1) % 8;
            String base = 8 + other + ":1234";
            String ours = 56 + other + ":1234";
            RenameMerge m = Scene.merged(50, base, ours, base + " " + (8 + name) + ":56");
            CHECK.due("where name " + name + " stands", m.stands(2, 8 + name), 56 + name);
            String names = (8 + name) + ":12 " + (8 + other) + ":12";
            m = Scene.merged(50, names, 32 + name + ":12", names);
            CHECK.due("the source of name " + name, m.renamed(1, 8 + name), 32 + name);
        }
    }

    private static void oneFileAtAPath() {
        RenameMerge m = new RenameMerge(50);
        m.put(0, 5, 0x21, true);
        CHECK.due("one put", m.size(0), 1);
        m.put(0, 5, 0x3, false);
        CHECK.due("a second put at the path", m.size(0), 1);
        CHECK.due("the later file", Scene.tree(m, 0), "5:3");
        m.put(0, 6, 0x4, false);
        CHECK.due("a put beside it", Scene.tree(m, 0), "5:3 6:4");
        m.drop(0, 5);
        CHECK.due("no earlier file comes back", Scene.tree(m, 0), "6:4");
    }

    private static void atMost8Files() {
        for (int tree = 0; tree <= 2; tree++) {
            RenameMerge m = new RenameMerge(50);
            Scene.lay(m, tree, "0:1 1:1 2:1 3:1 4:1 5:1");
            CHECK.due("a seventh file", m.put(tree, 6, 1, false), true);
            CHECK.due("an eighth file", m.put(tree, 63, 1, false), true);
            CHECK.due("a ninth file", m.put(tree, 62, 1, false), false);
            CHECK.due("files", m.size(tree), 8);
        }
    }

    private static void atMost8Lines() {
        RenameMerge m = Scene.laid(50, "1:1234567", "1:12345678", "");
        CHECK.due("seven lines", m.length(0, 1), 7);
        CHECK.due("eight lines", m.length(1, 1), 8);
        m = Scene.merged(50, "1:1", "1:23", "1:456");
        CHECK.due("a result of eight lines", m.length(3, 1), 8);
        CHECK.due("may be a tree", m.adopt(0), true);
        m = Scene.merged(50, "1:1", "1:234", "1:567");
        CHECK.due("a result of nine lines", m.length(3, 1), 9);
        CHECK.due("may not", m.adopt(0), false);
    }

    private static void resultOfTheLatest() {
        RenameMerge m = Scene.merged(50, "", "1:1", "2:2");
        CHECK.due("the first merge", Scene.tree(m, 3), "1:1 2:2");
        m.drop(1, 1);
        Scene.lay(m, 1, "3~3");
        CHECK.due("before the second", Scene.tree(m, 3), "1:1 2:2");
        m.merge();
        CHECK.due("the second merge", Scene.tree(m, 3), "2:2 3~3");
        m.drop(1, 3);
        m.drop(2, 2);
        m.merge();
        CHECK.due("a merge of empty trees", m.size(3), 0);
    }

    private static void resultEmptyAtFirst() {
        RenameMerge m = Scene.laid(50, "0:1 63:2", "0:1 63:2", "0:1 63:2");
        CHECK.due("size(3)", m.size(3), 0);
        CHECK.due("kind(3, 0)", m.kind(3, 0), 0);
        CHECK.due("length(3, 63)", m.length(3, 63), NONE);
        CHECK.due("line(3, 63, 0)", m.line(3, 63, 0), 0);
        m.merge();
        CHECK.due("after the first merge", Scene.tree(m, 3), "0:1 63:2");
    }

    private static void sidesAre1And2() {
        RenameMerge m = Scene.merged(50, "1:12", "9:12", "9:12");
        for (int side : new int[] {LEAST, -1, 0, 1, 2, 3, 4, GREATEST}) {
            boolean isSide = side == 1 || side == 2;
            CHECK.due("renamed by " + side, m.renamed(side, 1), isSide ? 9 : NONE);
            CHECK.due("newPlace by " + side, m.newPlace(side, 0), isSide ? 1 : NONE);
            CHECK.due("stands by " + side, m.stands(side, 9), isSide ? 9 : NONE);
            CHECK.due("score by " + side, m.score(side, 1, 9), isSide ? 100 : NONE);
        }
    }

    /** What one side does with a directory tells where the other's files stand, and not its own. */
    private static void otherSides() {
        for (int side = 1; side <= 2; side++) {
            RenameMerge m = Scene.mergedBy(side, "8:12", "56:12", "8:12 9:34");
            CHECK.due("the other's file", Scene.moved(m, 3 - side), "9>57");
            CHECK.due("its own files", Scene.moved(m, side), "");
            CHECK.due("renamed by it", Scene.renames(m, side), "8>56");
            CHECK.due("renamed by the other", Scene.renames(m, 3 - side), "");
        }
    }

    private static void thresholds() {
        String words = "The THRESHOLD is the constructor's number, if that is 1 .. 100, else 50.";
        CHECK.sentence(words, TreesEdgeTest::thresholdsNear0);
        CHECK.sentence(words, TreesEdgeTest::thresholdsNear100);
        CHECK.sentence(words, TreesEdgeTest::thresholdsFarAway);
    }

    private static boolean isRenamed(int threshold, String source, String target) {
        return Scene.merged(threshold, "1:" + source, "10:" + target, "").renamed(1, 1) == 10;
    }

    /** A score of 12 is the least one above 0 that there is. */
    private static void thresholdsNear0() {
        CHECK.due("-1, a score of 12", isRenamed(-1, "12345678", "1"), false);
        CHECK.due("0, a score of 12", isRenamed(0, "12345678", "1"), false);
        CHECK.due("0, a score of 0", isRenamed(0, "12345678", "9"), false);
        CHECK.due("1, a score of 12", isRenamed(1, "12345678", "1"), true);
        CHECK.due("1, a score of 0", isRenamed(1, "12345678", "9"), false);
        CHECK.due("1, a score of 0 of empty and other text", isRenamed(1, "", "9"), false);
        CHECK.due("2, a score of 12", isRenamed(2, "12345678", "1"), true);
    }

    /** Scores of 87 and 100 are the greatest two. */
    private static void thresholdsNear100() {
        for (int threshold : new int[] {99, 100}) {
            CHECK.due(threshold + ", a score of 87", isRenamed(threshold, "12345678", "12345679"), false);
            CHECK.due(threshold + ", a score of 100", isRenamed(threshold, "12345678", "21345678"), true);
        }
        CHECK.due("101, a score of 87", isRenamed(101, "12345678", "12345679"), true);
        CHECK.due("101, a score of 50", isRenamed(101, "12345678", "1234"), true);
        CHECK.due("101, a score of 42", isRenamed(101, "1234567", "123"), false);
        CHECK.due("102, a score of 50", isRenamed(102, "12345678", "1234"), true);
    }

    private static void thresholdsFarAway() {
        for (int threshold : new int[] {LEAST, -50, 0, 50, 101, 150, 306, GREATEST}) {
            CHECK.due(threshold + ", a score of 50", isRenamed(threshold, "12345678", "1234"), true);
            CHECK.due(threshold + ", a score of 42", isRenamed(threshold, "1234567", "123"), false);
        }
        CHECK.due("49, a score of 50", isRenamed(49, "12345678", "1234"), true);
        CHECK.due("51, a score of 50", isRenamed(51, "12345678", "1234"), false);
        CHECK.due("42, a score of 42", isRenamed(42, "1234567", "123"), true);
        CHECK.due("43, a score of 42", isRenamed(43, "1234567", "123"), false);
    }

    private static void newObject() {
        CHECK.sentence("Empty trees", TreesEdgeTest::beginsWithEmptyTrees);
        CHECK.sentence("style 0", TreesEdgeTest::beginsWithStyle0);
        CHECK.sentence("no merge yet", TreesEdgeTest::beginsWithoutAMerge);
    }

    private static void beginsWithEmptyTrees() {
        RenameMerge m = new RenameMerge(50);
        for (int tree = 0; tree <= 3; tree++) {
            CHECK.due("size(" + tree + ")", m.size(tree), 0);
            for (int path = 0; path < 64; path++) {
                CHECK.due("kind(" + tree + ", " + path + ")", m.kind(tree, path), 0);
            }
        }
        CHECK.due("a merge of them", m.merge(), 0);
        CHECK.due("its size", m.size(3), 0);
    }

    private static void beginsWithStyle0() {
        RenameMerge m = Scene.merged(50, "1:1", "1:2", "1:3");
        CHECK.due("no OLD and no O", Scene.tree(m, 3), "1:<2=3>");
    }

    private static void beginsWithoutAMerge() {
        RenameMerge m = Scene.laid(50, "1:12 2:3", "9:12 2:4", "2:5");
        CHECK.due("adopt", m.adopt(0), false);
        CHECK.due("conflict", m.conflict(2), 0);
        CHECK.due("staged", Scene.staged(m, 2), "none none none");
        CHECK.due("stagedLine", m.stagedLine(1, 2, 0), 0);
        CHECK.due("renamed", m.renamed(1, 1), NONE);
        CHECK.due("newPlace", m.newPlace(1, 0), NONE);
        CHECK.due("stands", m.stands(1, 9), NONE);
        m.merge();
        CHECK.due("conflict after it", m.conflict(2), 1);
        CHECK.due("staged after it", Scene.staged(m, 2), "(3) (4) (5)");
        CHECK.due("renamed after it", m.renamed(1, 1), 9);
        CHECK.due("stands after it", m.stands(1, 9), 9);
    }

    private static void put() {
        CHECK.sentence("in the place of the one that was there, if any", TreesEdgeTest::putInThePlace);
        CHECK.sentence("a LINK if so said, else PLAIN", TreesEdgeTest::putLinks);
        CHECK.sentence("its lines (none for text 0)", TreesEdgeTest::putText0);
        CHECK.sentence("the hexadecimal digits of text that are not 0 (those that are 0 are left out)",
                TreesEdgeTest::putLeavesOut0);
        CHECK.sentence("from the lowest one on (text & 15, then text >>> 4 & 15, .., at last text >>> 28)",
                TreesEdgeTest::putTakesEachDigit);
        CHECK.sentence("false, changing nothing, when tree is not 0 .. 2", TreesEdgeTest::putRefusesTrees);
        CHECK.sentence("path is not 0 .. 63", TreesEdgeTest::putRefusesPaths);
        CHECK.sentence("or the tree has no file there and has 8 files", TreesEdgeTest::putRefusesWhenFull);
    }

    private static void putInThePlace() {
        RenameMerge m = new RenameMerge(50);
        CHECK.due("where none was", m.put(2, 5, 0x321, false), true);
        CHECK.due("that file", Scene.tree(m, 2), "5:123");
        CHECK.due("where one was", m.put(2, 5, 0x4, true), true);
        CHECK.due("none of its lines stays", Scene.tree(m, 2), "5~4");
        CHECK.due("where an equal one was", m.put(2, 5, 0x4, true), true);
        CHECK.due("it stays so", Scene.tree(m, 2), "5~4");
    }

    private static void putLinks() {
        for (int tree = 0; tree <= 2; tree++) {
            RenameMerge m = new RenameMerge(50);
            m.put(tree, 5, 0x1, false);
            CHECK.due("PLAIN", m.kind(tree, 5), 1);
            m.put(tree, 5, 0x1, true);
            CHECK.due("LINK", m.kind(tree, 5), 2);
            m.put(tree, 5, 0, true);
            CHECK.due("a LINK without lines", m.kind(tree, 5), 2);
            m.put(tree, 5, 0, false);
            CHECK.due("PLAIN again", m.kind(tree, 5), 1);
        }
    }

    private static void putText0() {
        RenameMerge m = new RenameMerge(50);
        CHECK.due("put of text 0", m.put(0, 5, 0, false), true);
        CHECK.due("the file is there", m.kind(0, 5), 1);
        CHECK.due("it counts", m.size(0), 1);
        CHECK.due("its lines", m.length(0, 5), 0);
        CHECK.due("its line 0", m.line(0, 5, 0), 0);
        m.put(0, 5, 1, false);
        CHECK.due("of text 1", Scene.file(m, 0, 5), ":1");
        m.put(0, 5, -1, false);
        CHECK.due("of text -1", Scene.file(m, 0, 5), ":ffffffff");
    }

    private static void putLeavesOut0() {
        RenameMerge m = new RenameMerge(50);
        m.put(0, 5, 0x10, false);
        CHECK.due("a 0 below", Scene.file(m, 0, 5), ":1");
        m.put(0, 5, 0x201, false);
        CHECK.due("a 0 between", Scene.file(m, 0, 5), ":12");
        m.put(0, 5, 0x30020010, false);
        CHECK.due("many", Scene.file(m, 0, 5), ":123");
        m.put(0, 5, 0x76543210, false);
        CHECK.due("the lowest alone", Scene.file(m, 0, 5), ":1234567");
        m.put(0, 5, 0x07654321, false);
        CHECK.due("the highest alone", Scene.file(m, 0, 5), ":1234567");
        m.put(0, 5, 0x87654321, false);
        CHECK.due("no 0", Scene.file(m, 0, 5), ":12345678");
    }

    /** The highest digit is also the one with the sign: a negative text has no other lines for it. */
    private static void putTakesEachDigit() {
        RenameMerge m = new RenameMerge(50);
        for (int place = 0; place < 8; place++) {
            for (int digit = 1; digit <= 15; digit++) {
                m.put(0, 5, digit << 4 * place, false);
                CHECK.due("digit " + digit + " at " + place, m.length(0, 5) * 100 + m.line(0, 5, 0), 100 + digit);
            }
        }
        m.put(0, 5, 0x89ABCDEF, false);
        CHECK.due("the order", Scene.file(m, 0, 5), ":fedcba98");
        m.put(0, 5, LEAST, false);
        CHECK.due("the least number", Scene.file(m, 0, 5), ":8");
        m.put(0, 5, GREATEST, false);
        CHECK.due("the greatest number", Scene.file(m, 0, 5), ":fffffff7");
    }

    private static void putRefusesTrees() {
        RenameMerge m = Scene.merged(50, "5:1", "5:1", "5:1");
        for (int tree : NO_INPUTS) {
            CHECK.due("put into " + tree, m.put(tree, 5, 2, false), false);
            CHECK.due("put into " + tree + " elsewhere", m.put(tree, 6, 2, true), false);
        }
        for (int tree = 0; tree <= 3; tree++) {
            CHECK.due("tree " + tree, Scene.tree(m, tree), "5:1");
        }
        for (int tree = 0; tree <= 2; tree++) {
            CHECK.due("put into " + tree, m.put(tree, 5, 2, false), true);
            CHECK.due("tree " + tree, Scene.file(m, tree, 5), ":2");
        }
        CHECK.due("the result", Scene.file(m, 3, 5), ":1");
    }

    private static void putRefusesPaths() {
        for (int tree = 0; tree <= 2; tree++) {
            RenameMerge m = Scene.laid(50, "0:1 5:1 63:1", "0:1 5:1 63:1", "0:1 5:1 63:1");
            for (int path : NO_PATHS) {
                CHECK.due("put at " + path, m.put(tree, path, 2, true), false);
            }
            CHECK.due("the tree", Scene.tree(m, tree), "0:1 5:1 63:1");
        }
    }

    private static void putRefusesWhenFull() {
        for (int tree = 0; tree <= 2; tree++) {
            RenameMerge m = new RenameMerge(50);
            Scene.lay(m, tree, "0:1 1:1 2:1 3:1 4:1 5:1 63:1");
            CHECK.due("with 7 files, at a new path", m.put(tree, 7, 1, false), true);
            CHECK.due("with 8 files, at a new path", m.put(tree, 6, 1, false), false);
            CHECK.due("with 8 files, a link", m.put(tree, 8, 0, true), false);
            CHECK.due("nothing has changed", Scene.tree(m, tree), "0:1 1:1 2:1 3:1 4:1 5:1 7:1 63:1");
            CHECK.due("with 8 files, at the first one", m.put(tree, 0, 2, true), true);
            CHECK.due("with 8 files, at the last one", m.put(tree, 63, 3, false), true);
            CHECK.due("the tree", Scene.tree(m, tree), "0~2 1:1 2:1 3:1 4:1 5:1 7:1 63:3");
            CHECK.due("another tree is not full", m.put((tree + 1) % 3, 6, 1, false), true);
            m.drop(tree, 1);
            CHECK.due("with 7 files again", m.put(tree, 6, 1, false), true);
            CHECK.due("with 8 files again", m.put(tree, 1, 1, false), false);
        }
    }

    private static void dropAndCopy() {
        CHECK.sentence("Takes the file at a path away from tree 0, 1 or 2.", TreesEdgeTest::dropTakesOne);
        CHECK.sentence("false, changing nothing, when tree is not 0 .. 2 or has no file there.",
                TreesEdgeTest::dropRefuses);
        CHECK.sentence("(both 0 .. 2; they may be the same)", TreesEdgeTest::copyBothAndTheSame);
        CHECK.sentence("false, changing nothing, when one of them is not 0 .. 2.", TreesEdgeTest::copyRefuses);
    }

    private static void dropTakesOne() {
        for (int tree = 0; tree <= 2; tree++) {
            RenameMerge m = Scene.laid(50, "0:1 62:3 63:4", "0:1 62:3 63:4", "0:1 62:3 63:4");
            CHECK.due("the first path", m.drop(tree, 0), true);
            CHECK.due("the last path", m.drop(tree, 63), true);
            CHECK.due("what is left", Scene.tree(m, tree), "62:3");
            CHECK.due("the last file", m.drop(tree, 62), true);
            CHECK.due("an empty tree", m.size(tree), 0);
            CHECK.due("another tree", Scene.tree(m, (tree + 1) % 3), "0:1 62:3 63:4");
        }
    }

    private static void dropRefuses() {
        RenameMerge m = Scene.merged(50, "5:1", "5:1", "5:1");
        for (int tree : NO_INPUTS) {
            CHECK.due("drop from " + tree, m.drop(tree, 5), false);
        }
        for (int tree = 0; tree <= 2; tree++) {
            for (int path : NO_PATHS) {
                CHECK.due("drop at " + path, m.drop(tree, path), false);
            }
            CHECK.due("drop before the file", m.drop(tree, 4), false);
            CHECK.due("drop behind the file", m.drop(tree, 6), false);
        }
        for (int tree = 0; tree <= 3; tree++) {
            CHECK.due("tree " + tree, Scene.tree(m, tree), "5:1");
        }
        CHECK.due("drop", m.drop(0, 5), true);
        CHECK.due("drop a second time", m.drop(0, 5), false);
        CHECK.due("the result", Scene.tree(m, 3), "5:1");
    }

    private static void copyBothAndTheSame() {
        String[] files = {"0:1 63~2", "5:3", ""};
        for (int from = 0; from <= 2; from++) {
            for (int to = 0; to <= 2; to++) {
                RenameMerge m = Scene.laid(50, files[0], files[1], files[2]);
                CHECK.due("copy " + from + " to " + to, m.copy(from, to), true);
                for (int tree = 0; tree <= 2; tree++) {
                    CHECK.due("tree " + tree, Scene.tree(m, tree), files[tree == to ? from : tree]);
                }
            }
        }
    }

    private static void copyRefuses() {
        RenameMerge m = Scene.merged(50, "5:1", "5:1", "5:1");
        Scene.lay(m, 0, "5:2");
        Scene.lay(m, 1, "5:3");
        Scene.lay(m, 2, "5:4");
        for (int wrong : NO_INPUTS) {
            for (int tree = 0; tree <= 2; tree++) {
                CHECK.due("copy from " + wrong, m.copy(wrong, tree), false);
                CHECK.due("copy to " + wrong, m.copy(tree, wrong), false);
            }
            CHECK.due("copy " + wrong + " onto itself", m.copy(wrong, wrong), false);
        }
        CHECK.due("BASE", Scene.tree(m, 0), "5:2");
        CHECK.due("OURS", Scene.tree(m, 1), "5:3");
        CHECK.due("THEIRS", Scene.tree(m, 2), "5:4");
        CHECK.due("RESULT", Scene.tree(m, 3), "5:1");
    }

    private static void reading() {
        CHECK.sentence("The number of files of a tree 0 .. 3; NONE for others.", TreesEdgeTest::sizes);
        CHECK.sentence("1 when tree 0 .. 3 has a PLAIN file at the path, 2 when it has a LINK there, 0 otherwise"
                + " (also when there is no such tree or path).", TreesEdgeTest::kinds);
        CHECK.sentence("The number of lines of the file of tree 0 .. 3 at the path; NONE when there is none"
                + " (or no such tree or path).", TreesEdgeTest::lengths);
        CHECK.sentence("Line i of the file of tree 0 .. 3 at the path; 0 when there is none.", TreesEdgeTest::lines);
    }

    private static void sizes() {
        RenameMerge m = Scene.merged(50, "", "0:1 1:1 2:1 3:1 4:1 5:1 6:1 7:1",
                "8:2 9:2 10:2 11:2 12:2 13:2 14:2 63:2");
        CHECK.due("size(-1)", m.size(-1), NONE);
        CHECK.due("size(0), no file", m.size(0), 0);
        CHECK.due("size(1), a full tree", m.size(1), 8);
        CHECK.due("size(2), a full tree", m.size(2), 8);
        CHECK.due("size(3), more than another tree takes", m.size(3), 16);
        CHECK.due("size(4)", m.size(4), NONE);
        CHECK.due("the least number", m.size(LEAST), NONE);
        CHECK.due("the greatest number", m.size(GREATEST), NONE);
        m.drop(1, 0);
        CHECK.due("one less", m.size(1), 7);
    }

    private static void kinds() {
        RenameMerge m = Scene.merged(50, "5:1 6~1", "5:1 6~1", "5:1 6~1");
        for (int tree = -1; tree <= 4; tree++) {
            boolean isTree = tree >= 0 && tree <= 3;
            CHECK.due("no file in " + tree, m.kind(tree, 4), 0);
            CHECK.due("a plain file in " + tree, m.kind(tree, 5), isTree ? 1 : 0);
            CHECK.due("a link in " + tree, m.kind(tree, 6), isTree ? 2 : 0);
            for (int path : NO_PATHS) {
                CHECK.due("path " + path, m.kind(tree, path), 0);
            }
        }
        CHECK.due("the least number", m.kind(LEAST, 5), 0);
        CHECK.due("the greatest number", m.kind(GREATEST, 5), 0);
    }

    private static void lengths() {
        RenameMerge m = Scene.merged(50, "5: 6:1 7~12345678", "5: 6:1 7~12345678", "5: 6:1 7~12345678");
        for (int tree = -1; tree <= 4; tree++) {
            boolean isTree = tree >= 0 && tree <= 3;
            CHECK.due("no file in " + tree, m.length(tree, 4), NONE);
            CHECK.due("an empty file in " + tree, m.length(tree, 5), isTree ? 0 : NONE);
            CHECK.due("one line in " + tree, m.length(tree, 6), isTree ? 1 : NONE);
            CHECK.due("eight lines in " + tree, m.length(tree, 7), isTree ? 8 : NONE);
            for (int path : NO_PATHS) {
                CHECK.due("path " + path, m.length(tree, path), NONE);
            }
        }
        CHECK.due("the least number", m.length(LEAST, 5), NONE);
        CHECK.due("the greatest number", m.length(GREATEST, 5), NONE);
    }

    private static void lines() {
        RenameMerge m = Scene.merged(50, "5: 7~12345678", "5: 7~12345678", "5: 7~12345678");
        for (int tree = -1; tree <= 4; tree++) {
            boolean isTree = tree >= 0 && tree <= 3;
            CHECK.due("no file in " + tree, m.line(tree, 4, 0), 0);
            CHECK.due("an empty file in " + tree, m.line(tree, 5, 0), 0);
            CHECK.due("line -1 in " + tree, m.line(tree, 7, -1), 0);
            CHECK.due("line 0 in " + tree, m.line(tree, 7, 0), isTree ? 1 : 0);
            CHECK.due("line 7 in " + tree, m.line(tree, 7, 7), isTree ? 8 : 0);
            CHECK.due("line 8 in " + tree, m.line(tree, 7, 8), 0);
            CHECK.due("the least number", m.line(tree, 7, LEAST), 0);
            CHECK.due("the greatest number", m.line(tree, 7, GREATEST), 0);
            for (int path : NO_PATHS) {
                CHECK.due("path " + path, m.line(tree, path, 0), 0);
            }
        }
    }
}
