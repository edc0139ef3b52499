/**
 * The boundary cases of RENAMES and of SCORE, and so of the promises 15 and 18: for each sentence of the
 * document that names one a test of its own, at the boundary and one step to either side of it.
 */
public final class RenamesEdgeTest {
    private static final Check CHECK = new Check();
    private static final int NONE = RenameMerge.NONE;

    public static void main(String[] args) {
        exact();
        names();
        scores();
        scoreOfTwo();
        told();
        CHECK.end();
    }

    /** The same renames are due whichever side has the tree. */
    private static void expect(int threshold, String base, String tree, String renames) {
        String what = threshold + ": " + base + " to " + tree;
        CHECK.due("renames of side 1, " + what, Scene.renames(Scene.merged(threshold, base, tree, base), 1), renames);
        CHECK.due("renames of side 2, " + what, Scene.renames(Scene.merged(threshold, base, base, tree), 2), renames);
    }

    private static void exact() {
        CHECK.sentence("SOURCES are the paths at which BASE has a file and s has none", RenamesEdgeTest::sources);
        CHECK.sentence("TARGETS those at which s has a file and BASE has none", RenamesEdgeTest::targets);
        CHECK.sentence("Three steps, one after the other, pair sources with targets", RenamesEdgeTest::threeSteps);
        CHECK.sentence("a path that has been paired is not LEFT any more", RenamesEdgeTest::pairedOnce);
        CHECK.sentence("EXACT: for each target, in rising order", RenamesEdgeTest::exactRising);
        CHECK.sentence("of the sources left whose file is EQUAL to the target's", RenamesEdgeTest::exactEqual);
        CHECK.sentence("it is paired with the least one that has the target's name", RenamesEdgeTest::exactName);
        CHECK.sentence("if none has it, with the least one", RenamesEdgeTest::exactLeast);
        CHECK.sentence("if there is none at all, with none.", RenamesEdgeTest::exactNone);
    }

    private static void sources() {
        expect(50, "", "9:12", "");
        expect(50, "1:12", "1:12 9:12", "");
        expect(50, "1:12", "1:34 9:12", "");
        expect(50, "1:12", "9:12", "1>9");
        expect(50, "1:12 2:12", "1:12 9:12", "2>9");
    }

    private static void targets() {
        expect(50, "1:12", "", "");
        expect(50, "1:12 9:34", "9:34", "");
        expect(50, "1:12 9:34", "9:12", "");
        expect(50, "1:12 9:34", "9:34 10:12", "1>10");
        expect(50, "", "", "");
    }

    /** An equal file goes before an equal name, and a name with a score of 75 before another's score of 80. */
    private static void threeSteps() {
        expect(50, "1:1234", "9:1235 18:1234", "1>18");
        expect(50, "1:1234", "9:1235 18:12345", "1>9");
        expect(50, "1:1234", "9:1256 18:12345", "1>18");
        expect(50, "1:1234 2:1234", "10:1235 17:12345", "1>17 2>10");
        expect(50, "1:1234 2:1235", "9:1235", "2>9");
        expect(50, "1:1234 2:12345", "9:1235", "1>9");
    }

    private static void pairedOnce() {
        expect(50, "2:12", "10:12 18:12", "2>10");
        expect(50, "2:12 3:12", "10:12", "2>10");
        expect(50, "2:12 3:12", "10:12 18:12", "2>10 3>18");
        expect(50, "2:1234", "10:1234 18:1235", "2>10");
        expect(50, "2:1234 10:1235", "18:1234", "2>18");
    }

    /** A target that comes first takes the source, though a later one has its name. */
    private static void exactRising() {
        expect(50, "3:12", "9:12 12:12", "3>9");
        expect(50, "4:12", "9:12 12:12", "4>9");
        expect(50, "4:12", "12:12 17:12", "4>12");
        expect(50, "1:12 4:12", "9:12 12:12", "1>9 4>12");
        expect(50, "0:12 4:12", "9:12 12:12", "0>9 4>12");
        expect(50, "4:12 6:12", "9:12 12:12", "4>9 6>12");
        expect(50, "63:12", "0:12 62:12", "63>0");
    }

    private static void exactEqual() {
        expect(100, "1:12", "10:12", "1>10");
        expect(100, "1:12", "10:13", "");
        expect(100, "1~12", "10~12", "1>10");
        expect(1, "1~12", "10~13", "");
        expect(1, "1~12", "10:12", "");
        expect(1, "1:12", "10~12", "");
        expect(100, "1:", "10:", "1>10");
        expect(1, "1:", "10:1", "");
        expect(100, "1:13 2:12", "9:12", "2>9");
    }

    private static void exactName() {
        expect(50, "1:12 2:12 10:12", "26:12", "2>26");
        expect(50, "1:12 10:12 18:12", "2:12", "10>2");
        expect(50, "1:12 3:12 58:12", "2:12", "58>2");
        expect(50, "1:12 2:12", "26:12 34:12", "1>34 2>26");
        expect(50, "1:12 2:13", "26:12", "1>26");
    }

    private static void exactLeast() {
        expect(50, "1:12 3:12 4:12", "26:12", "1>26");
        expect(50, "0:12 63:12", "26:12", "0>26");
        expect(50, "1:13 3:12 4:12", "26:12", "3>26");
        expect(50, "1:12 3:12 4:12", "26:12 34:12", "1>26 3>34");
        expect(50, "1:12 3:12 4:12", "27:12", "3>27");
    }

    private static void exactNone() {
        expect(50, "1:12", "26:34", "");
        expect(50, "1:12", "18:12 26:34", "1>18");
        expect(50, "1:12", "18:34 26:12", "1>26");
    }

    private static void names() {
        CHECK.sentence("NAMES: for each name", RenamesEdgeTest::eachName);
        CHECK.sentence("of the sources and targets left after EXACT", RenamesEdgeTest::namesAfterExact);
        CHECK.sentence("exactly one source and exactly one target have it", RenamesEdgeTest::namesOfOne);
        CHECK.sentence("both are PLAIN", RenamesEdgeTest::namesOfPlainFiles);
        CHECK.sentence("their score is at least (101 + threshold) / 2", RenamesEdgeTest::namesScore);
        CHECK.sentence("(rounded down)", RenamesEdgeTest::namesScoreRounded);
    }

    /** Five sources and five targets are too many for SCORES, so that only a name pairs the ones that are given. */
    private static void expectByName(int threshold, String sources, String targets, String renames) {
        expect(threshold, sources + " 1~1 2~2 3~3 4~4", targets + " 61~11 62~22 63~33 45~44", renames);
    }

    private static void eachName() {
        for (int name = 0; name < 8; name++) {
            StringBuilder base = new StringBuilder(name + ":1234");
            StringBuilder tree = new StringBuilder(56 + name + ":1235");
            for (int i = 1; i <= 4; i++) {
                base.append(' ').append(16 + (name + i) % 8).append("~1");
                tree.append(' ').append(24 + (name + i) % 8).append("~2");
            }
            expect(50, base.toString(), tree.toString(), name + ">" + (56 + name));
            String turned = tree.toString().replace(":1235", ":1234");
            expect(50, turned, base.toString().replace(":1234", ":1235"), 56 + name + ">" + name);
        }
        expect(50, "0:1234 1:5678 2:9abc 3:def1 4~2 5~3", "8:1235 9:5679 10:9abd 11:def2 38~4 39~5 47~6",
                "0>8 1>9 2>10 3>11");
    }

    private static void namesAfterExact() {
        expectByName(50, "0:1234 16~9", "8:1235 53~9", "0>8 16>53");
        expectByName(50, "0:1234 13~9", "8:1235 16~9", "0>8 13>16");
        expectByName(50, "0:1234 16~9", "8:1235 53~a", "");
        expectByName(50, "0:1234 13~9", "8:1235 16~a", "");
    }

    private static void namesOfOne() {
        expectByName(50, "0:1234", "8:1235", "0>8");
        expectByName(50, "0:1234 16:9", "8:1235", "");
        expectByName(50, "0:1234 16~9", "8:1235", "");
        expectByName(50, "0:9 16:1234", "8:1235", "");
        expectByName(50, "0~9 16:1234", "8:1235", "");
        expectByName(50, "0:1234 56:9 16~9", "8:1235", "");
        expectByName(50, "0:1234", "8:1235 16:9", "");
        expectByName(50, "0:1234", "8:1235 16~9", "");
        expectByName(50, "0:1234", "8:9 16:1235", "");
        expectByName(50, "0:1234", "8~9 16:1235", "");
        expectByName(50, "0:1234 24:9", "8:1235 16:a", "");
        expectByName(50, "0:1234", "9:1235", "");
        expectByName(50, "0:1234 16:9", "8:1235 16:9", "0>8");
        expectByName(50, "0:1234 16:9", "8:1235 16:a", "0>8");
    }

    private static void namesOfPlainFiles() {
        expectByName(50, "0:1234", "8:1235", "0>8");
        expectByName(50, "0~1234", "8:1235", "");
        expectByName(50, "0:1234", "8~1235", "");
        expectByName(50, "0~1234", "8~1235", "");
    }

    /** Scores of 71, 75 and 80: threshold 50 asks for 75 here. */
    private static void namesScore() {
        expectByName(50, "0:1234567", "8:1234589", "");
        expectByName(50, "0:1234", "8:1235", "0>8");
        expectByName(50, "0:12345", "8:12346", "0>8");
        expectByName(1, "0:12", "8:13", "");
        expectByName(1, "0:1234567", "8:1234", "0>8");
        expectByName(100, "0:12345678", "8:12345679", "");
        expectByName(100, "0:12345678", "8:21345678", "0>8");
        expectByName(0, "0:1234567", "8:1234589", "");
        expectByName(0, "0:1234", "8:1235", "0>8");
        expectByName(101, "0:1234567", "8:1234589", "");
        expectByName(101, "0:1234", "8:1235", "0>8");
    }

    /** A score of 75 for 75, 75, 76; of 71 for 71, 71, 72; of 57 for 57, 57, 58; of 87 for 87, 87, 88. */
    private static void namesScoreRounded() {
        expectByName(49, "0:1234", "8:1235", "0>8");
        expectByName(50, "0:1234", "8:1235", "0>8");
        expectByName(51, "0:1234", "8:1235", "");
        expectByName(41, "0:1234567", "8:1234589", "0>8");
        expectByName(42, "0:1234567", "8:1234589", "0>8");
        expectByName(43, "0:1234567", "8:1234589", "");
        expectByName(13, "0:1234567", "8:1234", "0>8");
        expectByName(14, "0:1234567", "8:1234", "0>8");
        expectByName(15, "0:1234567", "8:1234", "");
        expectByName(73, "0:12345678", "8:12345679", "0>8");
        expectByName(74, "0:12345678", "8:12345679", "0>8");
        expectByName(75, "0:12345678", "8:12345679", "");
    }

    private static void scores() {
        String count = "SCORES: only if the number of sources left times the number of targets left is at most 20";
        CHECK.sentence(count, RenamesEdgeTest::atMost20);
        CHECK.sentence(count, RenamesEdgeTest::atMost20AfterExactAndNames);
        CHECK.sentence("(LINKs counted too)", RenamesEdgeTest::countsLinks);
        CHECK.sentence("that are both PLAIN", RenamesEdgeTest::scoresPlainFiles);
        CHECK.sentence("and have a score of at least the threshold", RenamesEdgeTest::scoresAtTheThreshold);
        CHECK.sentence("in order of falling score", RenamesEdgeTest::fallingScore);
        CHECK.sentence("for equal scores those with equal names first", RenamesEdgeTest::equalNamesFirst);
        CHECK.sentence("then by rising source", RenamesEdgeTest::risingSource);
        CHECK.sentence("by rising target", RenamesEdgeTest::risingTarget);
        CHECK.sentence("each pair of which neither path was paired before it is paired.",
                RenamesEdgeTest::neitherPaired);
    }

    /** As many sources and targets as are said; only those at 0 and 15 have a line in common: a score of 50. */
    private static void expectOfMany(int sources, int targets, String source, String target) {
        StringBuilder base = new StringBuilder("0:12");
        StringBuilder tree = new StringBuilder("15:13");
        for (int i = 1; i < sources; i++) {
            base.append(' ').append(i).append(source);
        }
        for (int i = 1; i < targets; i++) {
            tree.append(' ').append(23 + i).append(target);
        }
        expect(50, base.toString(), tree.toString(), sources * targets <= 20 ? "0>15" : "");
    }

    /** All numbers that there are: 4 by 5 and 5 by 4 are 20, 3 by 7 and 7 by 3 are 21. */
    private static void atMost20() {
        for (int sources = 1; sources <= 8; sources++) {
            for (int targets = 1; targets <= 8; targets++) {
                expectOfMany(sources, targets, ":45", ":67");
            }
        }
    }

    private static void countsLinks() {
        for (int sources = 1; sources <= 8; sources++) {
            for (int targets = 1; targets <= 8; targets++) {
                expectOfMany(sources, targets, "~4", "~6");
                expectOfMany(sources, targets, "~4", ":67");
                expectOfMany(sources, targets, ":45", "~6");
            }
        }
    }

    /** What EXACT or NAMES has paired does not count: 5 by 5 become 4 by 4, 4 by 8 become 3 by 7. */
    private static void atMost20AfterExactAndNames() {
        expect(50, "0:12 1:45 2:45 3:45 4:789", "15:13 24:67 25:67 26:67 27:789", "0>15 4>27");
        expect(50, "0:12 1:45 2:45 3:45 4:789", "15:13 24:67 25:67 26:67 27:78a", "");
        expect(50, "0:12 1:45 2:45 3:789a", "15:13 24:67 25:67 26:67 28:67 29:67 30:67 35:789a", "3>35");
        expect(50, "0:12 1:45 2:45 3:789a", "15:13 24:67 25:67 26:67 28:67 35:789a", "0>15 3>35");
        expect(50, "0:12 1:45 2:45 3:45 4:789a", "15:13 24:67 25:67 26:67 28:789b", "0>15 4>28");
        expect(50, "0:12 1:45 2:45 3:45 4:789a", "15:13 24:67 25:67 26:67 29:789b", "");
    }

    private static void scoresPlainFiles() {
        expect(1, "1:1234", "10:1235", "1>10");
        expect(1, "1~1234", "10:1235", "");
        expect(1, "1:1234", "10~1235", "");
        expect(1, "1~1234", "10~1235", "");
        expect(1, "1:1234 3~1236", "10:12 12~1235", "1>10");
    }

    private static void scoresAtTheThreshold() {
        expect(49, "1:1234", "10:1256", "1>10");
        expect(50, "1:1234", "10:1256", "1>10");
        expect(51, "1:1234", "10:1256", "");
        expect(50, "1:1234567", "10:123", "");
        expect(42, "1:1234567", "10:123", "1>10");
        expect(43, "1:1234567", "10:123", "");
        expect(12, "1:12345678", "10:1", "1>10");
        expect(13, "1:12345678", "10:1", "");
        expect(1, "1:12345678", "10:9", "");
        expect(1, "1:1", "10:", "");
        expect(87, "1:12345678", "10:12345679", "1>10");
        expect(88, "1:12345678", "10:12345679", "");
        expect(100, "1:12345678", "10:12345679", "");
        expect(100, "1:12345678", "10:21345678", "1>10");
    }

    private static void fallingScore() {
        expect(50, "1:1278 2:1257", "11:1256", "2>11");
        expect(50, "1:1278 2:1278", "11:1256", "1>11");
        expect(50, "1:1257 2:1278", "11:1256", "1>11");
        expect(50, "1:1278 2:1257", "11:1256 12:1279", "1>12 2>11");
        expect(50, "1:1234", "10:1256 11:1235", "1>11");
        expect(50, "1:1234", "10:1235 11:1256", "1>10");
    }

    /** Names decide between equal scores alone: 42 goes before 40, the nearest that two scores can be. */
    private static void equalNamesFirst() {
        expect(50, "1:1278 2:1278", "10:1256", "2>10");
        expect(50, "1:1278 2:1278 10:1278", "18:1256", "2>18");
        expect(50, "2:1278", "9:1256 10:1256", "2>10");
        expect(50, "2:1278", "10:1256 11:1256", "2>10");
        expect(50, "1:1257 2:1278", "10:1256", "1>10");
        expect(40, "1:1236789 2:12abc", "10:12345", "1>10");
        expect(40, "1:12def 2:12abc", "10:12345", "2>10");
        expect(40, "2:12345", "9:1236789 10:12abc", "2>9");
        expect(50, "1:1278 2:1278", "9:1256 10:1256", "1>9 2>10");
        expect(50, "1:1278 2:1278", "10:1256 17:1256", "1>17 2>10");
    }

    private static void risingSource() {
        expect(50, "1:1278 3:1278", "10:1256", "1>10");
        expect(50, "3:1278 9:1278", "10:1256", "3>10");
        expect(50, "0:1278 63:1278", "10:1256", "0>10");
        expect(50, "63:1278", "10:1256", "63>10");
        expect(50, "1:1278 9:1278", "17:1256", "1>17");
    }

    private static void risingTarget() {
        expect(50, "1:1278", "10:1256 11:1256", "1>10");
        expect(50, "9:1278", "0:1256 63:1256", "9>0");
        expect(50, "9:1278", "63:1256", "9>63");
        expect(50, "1:1278", "9:1256 17:1256", "1>9");
        expect(50, "1:1278 4:1278", "10:1256 11:1256", "1>10 4>11");
    }

    private static void neitherPaired() {
        expect(50, "1:1234", "10:1235 11:1267", "1>10");
        expect(50, "1:1234 3:1267", "10:1235", "1>10");
        expect(50, "1:1234 3:5678", "10:1235 12:5679", "1>10 3>12");
        expect(50, "1:1234 3:1298", "10:1235 12:1267", "1>10 3>12");
        expect(50, "1:1234 3:1298", "10:1235 12:67", "1>10");
        expect(50, "1:1234 3:12ab 5:12cd", "10:1256 12:1278 14:129e", "1>10 3>12 5>14");
    }

    private static void scoreOfTwo() {
        CHECK.sentence("The SCORE of two PLAIN files is 100 * c / n, rounded down", RenamesEdgeTest::roundedDown);
        CHECK.sentence("where n is the number of lines of the longer one", RenamesEdgeTest::longerOne);
        CHECK.sentence("of the lesser of how often that line is in the one and in the other",
                RenamesEdgeTest::lesserOfTheTwo);
        CHECK.sentence("over all 19 lines", RenamesEdgeTest::all19Lines);
        CHECK.sentence("0 if n is 0", RenamesEdgeTest::nIs0);
        CHECK.sentence("as the trees are now", RenamesEdgeTest::asTheTreesAre);
        CHECK.sentence("NONE when side is not 1 or 2, or one of the two is not there or is not PLAIN.",
                RenamesEdgeTest::noScore);
    }

    private static int scored(int side, String base, String other) {
        RenameMerge m = new RenameMerge(50);
        Scene.lay(m, 0, "0:" + base);
        Scene.lay(m, side, "63:" + other);
        return m.score(side, 0, 63);
    }

    private static void expectScore(String base, String other, int score) {
        for (int side = 1; side <= 2; side++) {
            CHECK.due(base + " and " + other, scored(side, base, other), score);
            CHECK.due(other + " and " + base, scored(side, other, base), score);
        }
    }

    private static void roundedDown() {
        for (int n = 1; n <= 8; n++) {
            for (int c = 0; c <= n; c++) {
                expectScore("12345678".substring(0, n), "12345678".substring(0, c) + "f".repeat(n - c), 100 * c / n);
            }
        }
        expectScore("123", "1", 33);
        expectScore("123", "12", 66);
        expectScore("12345678", "1", 12);
        expectScore("12345678", "1234567", 87);
    }

    private static void longerOne() {
        for (int longer = 1; longer <= 8; longer++) {
            for (int shorter = 0; shorter <= longer; shorter++) {
                expectScore("12345678".substring(0, longer), "12345678".substring(0, shorter), 100 * shorter / longer);
            }
        }
    }

    private static void lesserOfTheTwo() {
        for (int one = 0; one <= 4; one++) {
            for (int two = 0; two <= 4; two++) {
                String left = "1".repeat(one) + "2".repeat(4);
                String right = "3".repeat(4) + "1".repeat(two);
                expectScore(left, right, 100 * Math.min(one, two) / (4 + Math.max(one, two)));
            }
        }
        expectScore("11122", "112222", 66);
        expectScore("12", "21", 100);
    }

    /** The marks are lines 16 to 19; a style 1 conflict has all of them, a style 0 conflict three. */
    private static void all19Lines() {
        for (char line : "123456789abcdef".toCharArray()) {
            expectScore(line + "", line + "", 100);
            expectScore(line + "", line == 'f' ? "e" : "f", 0);
        }
        RenameMerge m = Scene.laid(50, "1:1", "1:2", "1:3");
        m.style(1);
        m.merge();
        m.adopt(0);
        m.adopt(2);
        CHECK.due("all of them", Scene.file(m, 0, 1), ":<2|1=3>");
        CHECK.due("7 of 7 lines", m.score(2, 1, 1), 100);
        CHECK.due("1 of 7 lines", m.score(1, 1, 1), 14);
        Scene.lay(m, 2, "1:3");
        m.style(0);
        m.merge();
        m.adopt(1);
        CHECK.due("three of them", Scene.file(m, 1, 1), ":<2=3>");
        CHECK.due("5 of 7 lines", m.score(1, 1, 1), 71);
    }

    /** Two empty files are EQUAL and so renamed; but their score of 0 alone would pair none. */
    private static void nIs0() {
        expectScore("", "", 0);
        expectScore("", "1", 0);
        expectScore("1", "1", 100);
        expectScore("1", "2", 0);
        expect(1, "1:", "9:", "1>9");
        expect(1, "1:", "9:1", "");
    }

    private static void asTheTreesAre() {
        RenameMerge m = Scene.laid(50, "1:12", "9:13", "");
        CHECK.due("before a merge", m.score(1, 1, 9), 50);
        m.merge();
        Scene.lay(m, 1, "9:12");
        CHECK.due("after a put into the side", m.score(1, 1, 9), 100);
        Scene.lay(m, 0, "1:34");
        CHECK.due("after a put into BASE", m.score(1, 1, 9), 0);
        m.drop(0, 1);
        CHECK.due("after a drop", m.score(1, 1, 9), NONE);
    }

    private static void noScore() {
        RenameMerge m = Scene.merged(50, "0:12 1~12 63:12", "0:12 1~12 63:12", "0:12 1~12 63:12");
        for (int side : new int[] {Integer.MIN_VALUE, -1, 0, 3, 4, Integer.MAX_VALUE}) {
            CHECK.due("side " + side, m.score(side, 0, 0), NONE);
        }
        for (int side = 1; side <= 2; side++) {
            CHECK.due("side " + side, m.score(side, 0, 63), 100);
            for (int path : new int[] {Integer.MIN_VALUE, -1, 2, 62, 64, 65, Integer.MAX_VALUE}) {
                CHECK.due("p = " + path, m.score(side, path, 0), NONE);
                CHECK.due("q = " + path, m.score(side, 0, path), NONE);
                CHECK.due("both " + path, m.score(side, path, path), NONE);
            }
            CHECK.due("a link in BASE", m.score(side, 1, 0), NONE);
            CHECK.due("a link of the side", m.score(side, 0, 1), NONE);
            CHECK.due("two links", m.score(side, 1, 1), NONE);
        }
    }

    private static void told() {
        CHECK.sentence("(the target itself, not where its file stands)", RenamesEdgeTest::tellsTheTarget);
        CHECK.sentence("NONE when it was not, there was no merge yet, or side is not 1 or 2.",
                RenamesEdgeTest::tellsNone);
    }

    private static void tellsTheTarget() {
        for (int side = 1; side <= 2; side++) {
            RenameMerge m = Scene.mergedBy(side, "8:12 40:34", "8:12 13:34", "16:12 40:34");
            CHECK.due("renamed", m.renamed(side, 40), 13);
            CHECK.due("stands", m.stands(side, 13), 21);
        }
    }

    private static void tellsNone() {
        RenameMerge m = Scene.laid(50, "0:12 63:34", "1:12 62:34", "1:12 62:34");
        CHECK.due("no merge yet", m.renamed(1, 0), NONE);
        m.merge();
        for (int side : new int[] {Integer.MIN_VALUE, -1, 0, 3, 4, Integer.MAX_VALUE}) {
            CHECK.due("side " + side, m.renamed(side, 0), NONE);
        }
        for (int side = 1; side <= 2; side++) {
            CHECK.due("the first path", m.renamed(side, 0), 1);
            CHECK.due("the last path", m.renamed(side, 63), 62);
            for (int path : new int[] {Integer.MIN_VALUE, -1, 1, 2, 62, 64, Integer.MAX_VALUE}) {
                CHECK.due("path " + path, m.renamed(side, path), NONE);
            }
        }
        m.copy(0, 1);
        CHECK.due("it stays till the next merge", m.renamed(1, 0), 1);
        m.merge();
        CHECK.due("it was not renamed in the latest", m.renamed(1, 0), NONE);
        CHECK.due("by the other side it was", m.renamed(2, 0), 1);
    }
}
