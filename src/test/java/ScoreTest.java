/** Promise 18: score, of the trees as they are now. */
public final class ScoreTest {
    private static final Check CHECK = new Check();

    public static void main(String[] args) {
        scoresTexts();
        followsTheTrees();
        answersWrongInputs();
        CHECK.end();
    }

    private static int scored(int side, int one, int two) {
        RenameMerge m = new RenameMerge(50);
        m.put(0, 0, one, false);
        m.put(side, 63, two, false);
        return m.score(side, 0, 63);
    }

    private static void scoresTexts() {
        for (int side = 1; side <= 2; side++) {
            CHECK.due("equal texts", scored(side, 0x321, 0x321), 100);
            CHECK.due("the order does not matter", scored(side, 0x321, 0x132), 100);
            CHECK.due("nothing in common", scored(side, 0x321, 0x654), 0);
            CHECK.due("two empty texts", scored(side, 0, 0), 0);
            CHECK.due("one empty text", scored(side, 0, 0x1), 0);
            CHECK.due("the other empty text", scored(side, 0x1, 0), 0);
            CHECK.due("the longer one counts", scored(side, 0x321, 0x1), 33);
            CHECK.due("rounded down", scored(side, 0x21, 0x321), 66);
            CHECK.due("the lesser count of each line", scored(side, 0x22111, 0x222211), 66);
            CHECK.due("one line often", scored(side, 0x11111111, 0x1), 12);
            CHECK.due("one line often the other way", scored(side, 0x1, 0x11111111), 12);
            CHECK.due("eight lines", scored(side, 0x87654321, 0x97654321), 87);
            CHECK.due("line 15", scored(side, 0xFFFFFFFF, 0xFFFF), 50);
        }
    }

    private static void followsTheTrees() {
        RenameMerge m = new RenameMerge(50);
        Check.everywhere(m, 5, 0x21);
        m.merge();
        CHECK.due("the same path", m.score(1, 5, 5), 100);
        m.put(1, 5, 0x31, false);
        CHECK.due("after a put", m.score(1, 5, 5), 50);
        CHECK.due("the other side", m.score(2, 5, 5), 100);
        m.put(0, 5, 0x3, false);
        CHECK.due("after a put into BASE", m.score(2, 5, 5), 0);
        m.drop(1, 5);
        CHECK.due("after a drop", m.score(1, 5, 5), RenameMerge.NONE);
    }

    private static void answersWrongInputs() {
        RenameMerge m = new RenameMerge(50);
        Check.everywhere(m, 0, 0x21);
        m.put(0, 1, 0x21, true);
        m.put(1, 2, 0x21, true);
        m.merge();
        for (int side : new int[] {0, 3, -1, 4, Integer.MIN_VALUE, Integer.MAX_VALUE}) {
            CHECK.due("side " + side, m.score(side, 0, 0), RenameMerge.NONE);
        }
        for (int path : new int[] {-1, 64, 40, Integer.MIN_VALUE, Integer.MAX_VALUE}) {
            CHECK.due("p = " + path, m.score(1, path, 0), RenameMerge.NONE);
            CHECK.due("q = " + path, m.score(1, 0, path), RenameMerge.NONE);
        }
        CHECK.due("a link in BASE", m.score(1, 1, 0), RenameMerge.NONE);
        CHECK.due("a link of the side", m.score(1, 0, 2), RenameMerge.NONE);
        CHECK.due("two links", m.score(1, 1, 2), RenameMerge.NONE);
        CHECK.due("two plain files", m.score(1, 0, 0), 100);
    }
}
