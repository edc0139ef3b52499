/** Promise 15: renamed, by the three steps EXACT, NAMES and SCORES. */
public final class RenamesTest {
    private static final Check CHECK = new Check();

    public static void main(String[] args) {
        pairsEqualFiles();
        pairsEqualFilesByName();
        pairsEqualLinks();
        pairsOnlyNames();
        leavesNamesThatAreNotAlone();
        pairsByScore();
        ordersEqualScores();
        prefersEqualNames();
        countsPairsToScore();
        scoresNo21Pairs();
        needsSourcesAndTargets();
        answersWrongInputs();
        CHECK.end();
    }

    private static void expect(RenameMerge m, int side, int... sourcesAndTargets) {
        m.merge();
        for (int path = 0; path < 64; path++) {
            int want = RenameMerge.NONE;
            for (int i = 0; i < sourcesAndTargets.length; i += 2) {
                want = sourcesAndTargets[i] == path ? sourcesAndTargets[i + 1] : want;
            }
            CHECK.due("renamed(" + side + ", " + path + ")", m.renamed(side, path), want);
        }
    }

    private static void pairsEqualFiles() {
        for (int side = 1; side <= 2; side++) {
            RenameMerge m = new RenameMerge(50);
            Check.everywhere(m, 9, 0x21);
            Check.everywhere(m, 3, 0x43);
            Check.move(m, side, 9, 60, 0x21);
            Check.move(m, side, 3, 2, 0x43);
            expect(m, side, 9, 60, 3, 2);
            expect(m, 3 - side);
        }
        RenameMerge empty = new RenameMerge(100);
        Check.everywhere(empty, 9, 0);
        Check.move(empty, 1, 9, 60, 0);
        expect(empty, 1, 9, 60);
    }

    private static void pairsEqualFilesByName() {
        RenameMerge m = new RenameMerge(50);
        for (int path : new int[] {0, 9, 18, 26}) {
            m.put(0, path, 0x321, false);
        }
        m.put(1, 34, 0x321, false);
        expect(m, 1, 18, 34);
        m.put(1, 36, 0x321, false);
        expect(m, 1, 18, 34, 0, 36);
        m.put(1, 32, 0x321, false);
        expect(m, 1, 0, 32, 18, 34, 9, 36);
        m.put(1, 4, 0x321, false);
        expect(m, 1, 0, 4, 9, 32, 18, 34, 26, 36);
        m.put(1, 63, 0x321, false);
        expect(m, 1, 0, 4, 9, 32, 18, 34, 26, 36);
    }

    private static void pairsEqualLinks() {
        RenameMerge m = new RenameMerge(1);
        m.put(0, 0, 0x321, true);
        m.put(0, 1, 0x321, false);
        m.put(1, 9, 0x321, true);
        m.put(1, 8, 0x321, false);
        expect(m, 1, 0, 9, 1, 8);
        m.put(1, 9, 0x3213, true);
        expect(m, 1, 1, 8);
        m.put(1, 8, 0x3213, true);
        m.put(1, 9, 0x3213, false);
        expect(m, 1, 1, 9);
    }

    /** Threshold 50: a name alone needs a score of 75, and then goes before a better score. */
    private static void pairsOnlyNames() {
        RenameMerge m = new RenameMerge(50);
        m.put(0, 1, 0x4321, false);
        m.put(1, 9, 0x5321, false);
        m.put(1, 18, 0x54321, false);
        CHECK.due("score of equal names", m.score(1, 1, 9), 75);
        CHECK.due("score of other names", m.score(1, 1, 18), 80);
        expect(m, 1, 1, 9);
        m.put(0, 1, 0x7654321, false);
        m.put(1, 9, 0x8854321, false);
        m.put(1, 18, 0x8654321, false);
        CHECK.due("too low a score of equal names", m.score(1, 1, 9), 71);
        expect(m, 1, 1, 18);
        RenameMerge strict = new RenameMerge(51);
        strict.put(0, 1, 0x4321, false);
        strict.put(1, 9, 0x5321, false);
        strict.put(1, 18, 0x54321, false);
        expect(strict, 1, 1, 18);
    }

    private static void leavesNamesThatAreNotAlone() {
        RenameMerge m = new RenameMerge(50);
        m.put(0, 1, 0x4321, false);
        m.put(0, 17, 0xE, true);
        m.put(1, 9, 0x5321, false);
        m.put(1, 18, 0x54321, false);
        expect(m, 1, 1, 18);
        m.drop(0, 17);
        m.put(1, 25, 0xE, true);
        expect(m, 1, 1, 18);
        m.put(0, 40, 0xE, true);
        expect(m, 1, 40, 25, 1, 9);
        m.drop(0, 40);
        m.drop(1, 25);
        m.put(0, 25, 0xF, false);
        expect(m, 1, 1, 18);
        m.put(1, 62, 0xF, false);
        expect(m, 1, 25, 62, 1, 9);
        m.put(1, 9, 0x5321, true);
        expect(m, 1, 25, 62, 1, 18);
    }

    private static void pairsByScore() {
        RenameMerge m = new RenameMerge(50);
        m.put(0, 1, 0x4321, false);
        m.put(0, 2, 0x4326, false);
        m.put(1, 11, 0x4325, false);
        m.put(1, 12, 0x54321, false);
        expect(m, 1, 1, 12, 2, 11);
        m.put(1, 12, 0x5321, true);
        expect(m, 1, 1, 11);
        m.put(1, 11, 0x7721, false);
        CHECK.due("a score at the threshold", m.score(1, 1, 11), 50);
        expect(m, 1, 1, 11);
        m.put(1, 11, 0x77721, false);
        CHECK.due("a score below the threshold", m.score(1, 1, 11), 40);
        expect(m, 1);
    }

    private static void ordersEqualScores() {
        RenameMerge m = new RenameMerge(50);
        m.put(0, 1, 0x4321, false);
        m.put(0, 2, 0x4312, false);
        m.put(1, 11, 0x6321, false);
        m.put(1, 12, 0x6312, false);
        expect(m, 1, 1, 11, 2, 12);
        m.put(1, 10, 0x8721, false);
        m.put(1, 18, 0x8721, false);
        m.drop(1, 11);
        m.drop(1, 12);
        m.put(1, 3, 0x8721, false);
        CHECK.due("all scores are the same", m.score(1, 1, 3), m.score(1, 2, 18));
        expect(m, 1, 2, 10, 1, 3);
    }

    private static void prefersEqualNames() {
        RenameMerge m = new RenameMerge(50);
        m.put(0, 1, 0x4321, false);
        m.put(0, 2, 0x4312, false);
        m.put(1, 10, 0x8721, false);
        expect(m, 1, 2, 10);
        m.put(0, 2, 0x4315, false);
        expect(m, 1, 1, 10);
        m.drop(0, 2);
        m.put(1, 17, 0x8721, false);
        expect(m, 1, 1, 17);
    }

    /** Sources 5, targets 4 make 20 pairs; one target or source more, and none is scored. */
    private static void countsPairsToScore() {
        RenameMerge m = new RenameMerge(50);
        int[] sources = {0, 1, 2, 3, 4};
        int[] targets = {13, 22, 31, 39};
        for (int path : sources) {
            m.put(0, path, 0x11 * (path + 1), false);
        }
        for (int path : targets) {
            m.put(1, path, 0xEE, true);
        }
        m.put(1, 13, 0x611, false);
        expect(m, 1, 0, 13);
        m.put(0, 50, 0xF, true);
        expect(m, 1);
        m.put(1, 40, 0xF, true);
        expect(m, 1, 50, 40, 0, 13);
        m.put(1, 7, 0xD, true);
        expect(m, 1, 50, 40);
        m.drop(0, 4);
        expect(m, 1, 50, 40, 0, 13);
        m.put(0, 4, 0x55, false);
        m.drop(1, 13);
        m.put(1, 8, 0x7111, false);
        expect(m, 1, 50, 40);
        m.put(1, 8, 0x411, false);
        expect(m, 1, 50, 40);
        m.put(0, 0, 0x1111, false);
        m.put(1, 8, 0x7111, false);
        CHECK.due("the score of a name alone", m.score(1, 0, 8), 75);
        expect(m, 1, 50, 40, 0, 8);
    }

    private static void scoresNo21Pairs() {
        RenameMerge m = new RenameMerge(50);
        for (int i = 0; i < 3; i++) {
            m.put(0, i, 0x1111 * (i + 1), false);
        }
        for (int i = 0; i < 7; i++) {
            m.put(1, 8 * i + 15, 0xD, true);
        }
        m.put(1, 15, 0x5111, false);
        CHECK.due("a high score", m.score(1, 0, 15), 75);
        expect(m, 1);
        m.drop(1, 63);
        expect(m, 1, 0, 15);
    }

    private static void needsSourcesAndTargets() {
        RenameMerge m = new RenameMerge(50);
        m.put(0, 1, 0x4321, false);
        m.put(0, 2, 0xCBA9, false);
        m.put(1, 2, 0x4321, false);
        expect(m, 1);
        m.put(1, 3, 0x4321, false);
        m.put(1, 1, 0x7, false);
        expect(m, 1);
        m.drop(1, 1);
        expect(m, 1, 1, 3);
    }

    private static void answersWrongInputs() {
        RenameMerge m = new RenameMerge(50);
        m.put(0, 1, 0x21, false);
        m.put(1, 2, 0x21, false);
        m.put(2, 2, 0x21, false);
        m.merge();
        for (int side : new int[] {0, 3, -1, Integer.MIN_VALUE, Integer.MAX_VALUE}) {
            CHECK.due("renamed(" + side + ", 1)", m.renamed(side, 1), RenameMerge.NONE);
        }
        for (int path : new int[] {-1, 64, Integer.MIN_VALUE, Integer.MAX_VALUE}) {
            CHECK.due("renamed(1, " + path + ")", m.renamed(1, path), RenameMerge.NONE);
        }
        m.put(1, 1, 0x21, false);
        m.drop(2, 2);
        CHECK.due("what was renamed by ours", m.renamed(1, 1), 2);
        CHECK.due("what was renamed by theirs", m.renamed(2, 1), 2);
        m.merge();
        CHECK.due("after another merge", m.renamed(1, 1), RenameMerge.NONE);
    }
}
