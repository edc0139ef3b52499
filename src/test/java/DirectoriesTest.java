/** Promises 16 newPlace and 17 stands, and the conflict DIRECTORY. */
public final class DirectoriesTest {
    private static final Check CHECK = new Check();
    private static final int NONE = RenameMerge.NONE;

    public static void main(String[] args) {
        for (int side = 1; side <= 2; side++) {
            findsNewPlaces(side);
            findsNoPlaceForDirectoriesInUse(side);
            splits(side);
            movesNewFiles(side);
            leavesFilesThatBaseHas(side);
            leavesWhatIsTaken(side);
            leavesWhatIsWantedTwice(side);
            leavesWhatWouldGoOn(side);
            goesToSplitDirectories(side);
            movesRenamedFiles(side);
        }
        bothSidesMeet();
        answersWrongInputs();
        CHECK.end();
    }

    private static RenameMerge with(int... paths) {
        RenameMerge m = new RenameMerge(50);
        for (int path : paths) {
            Check.everywhere(m, path, textOf(path));
        }
        return m;
    }

    /** Texts of different paths share too few lines to be taken for one another. */
    private static int textOf(int path) {
        return 0x10101 * (1 + path / 8) + 0x1010100 * (1 + path % 8);
    }

    private static void move(RenameMerge m, int side, int from, int to) {
        Check.move(m, side, from, to, textOf(from));
    }

    private static void findsNewPlaces(int side) {
        RenameMerge m = with(8, 9, 10, 56);
        move(m, side, 8, 16);
        move(m, side, 9, 25);
        move(m, side, 10, 27);
        m.merge();
        for (int directory = 0; directory < 8; directory++) {
            CHECK.due("newPlace of " + directory, m.newPlace(side, directory), directory == 1 ? 3 : NONE);
            CHECK.due("newPlace by the other", m.newPlace(3 - side, directory), NONE);
        }
        m.drop(side, 25);
        m.drop(side, 27);
        m.merge();
        CHECK.due("of one file alone", m.newPlace(side, 1), 2);
        m.drop(side, 16);
        m.merge();
        CHECK.due("of no file", m.newPlace(side, 1), NONE);
    }

    private static void findsNoPlaceForDirectoriesInUse(int side) {
        RenameMerge m = with(8, 9);
        move(m, side, 8, 16);
        m.merge();
        CHECK.due("a file stays", m.newPlace(side, 1), NONE);
        move(m, side, 9, 17);
        m.merge();
        CHECK.due("none stays", m.newPlace(side, 1), 2);
        m.put(side, 15, 0xFEDC, false);
        m.merge();
        CHECK.due("a new one is there", m.newPlace(side, 1), NONE);
    }

    private static void splits(int side) {
        RenameMerge m = with(8, 9, 10, 11);
        move(m, side, 8, 16);
        move(m, side, 9, 25);
        m.drop(side, 10);
        m.drop(side, 11);
        m.put(3 - side, 13, 0xFEDC, false);
        CHECK.due("merge", m.merge() > 0, true);
        CHECK.due("split in two", m.newPlace(side, 1), RenameMerge.SPLIT);
        CHECK.due("a file there", m.stands(3 - side, 13), 13);
        CHECK.due("its conflict", m.conflict(13), 128);
        CHECK.due("its result", Check.file(m, 3, 13), "plain 12 13 14 15");
        CHECK.due("it is staged", Check.staged(m, 3 - side, 13), "lines 12 13 14 15");
        m.put(side, 18, textOf(10), false);
        m.merge();
        CHECK.due("one has more", m.newPlace(side, 1), 2);
        m.put(side, 27, textOf(11), false);
        m.merge();
        CHECK.due("split in two by two", m.newPlace(side, 1), RenameMerge.SPLIT);
        CHECK.due("a file that BASE has there", m.conflict(8), 0);
    }

    private static void movesNewFiles(int side) {
        RenameMerge m = with(8, 9);
        move(m, side, 8, 56);
        move(m, side, 9, 57);
        m.put(3 - side, 13, 0xFEDC, false);
        m.put(3 - side, 14, 0xF, true);
        CHECK.due("merge", m.merge(), 0);
        CHECK.due("a new file", m.stands(3 - side, 13), 61);
        CHECK.due("a new link", m.stands(3 - side, 14), 62);
        CHECK.due("a path without a file", m.stands(3 - side, 61), NONE);
        CHECK.due("a file of the side itself", m.stands(side, 56), 56);
        CHECK.due("the result there", Check.file(m, 3, 61), "plain 12 13 14 15");
        CHECK.due("the link there", Check.file(m, 3, 62), "link 15");
        CHECK.due("the result at its own path", Check.file(m, 3, 13), "none");
        CHECK.due("the tree stays", Check.file(m, 3 - side, 13), "plain 12 13 14 15");
        CHECK.due("size(3)", m.size(3), 4);
        m.drop(3 - side, 13);
        CHECK.due("it stood there then", m.stands(3 - side, 13), 61);
        m.merge();
        CHECK.due("it stands no more", m.stands(3 - side, 13), NONE);
    }

    private static void leavesFilesThatBaseHas(int side) {
        RenameMerge m = with(8, 9);
        move(m, side, 8, 56);
        m.drop(side, 9);
        m.put(3 - side, 9, 0xFEDC, false);
        CHECK.due("merge", m.merge(), 1);
        CHECK.due("newPlace", m.newPlace(side, 1), 7);
        CHECK.due("a changed file", m.stands(3 - side, 9), 9);
        CHECK.due("its conflict is not DIRECTORY", m.conflict(9), 4);
    }

    private static void leavesWhatIsTaken(int side) {
        for (int tree = 0; tree <= 2; tree++) {
            RenameMerge m = with(8, 9);
            move(m, side, 8, 56);
            move(m, side, 9, 57);
            m.put(3 - side, 13, 0xFEDC, false);
            m.put(tree, 61, 0xBBB, false);
            m.merge();
            CHECK.due("newPlace", m.newPlace(side, 1), 7);
            CHECK.due("the place is taken by tree " + tree, m.stands(3 - side, 13), 13);
            CHECK.due("the conflict", m.conflict(13), 128);
            CHECK.due("the result", Check.file(m, 3, 13), "plain 12 13 14 15");
        }
    }

    private static void leavesWhatIsWantedTwice(int side) {
        RenameMerge m = with(8, 16);
        move(m, side, 8, 56);
        move(m, side, 16, 57);
        m.put(3 - side, 13, 0xFEDC, false);
        m.put(3 - side, 21, 0xBBB, false);
        m.put(3 - side, 22, 0xAAA, false);
        CHECK.due("merge", m.merge(), 2);
        CHECK.due("the first", m.stands(3 - side, 13), 13);
        CHECK.due("its conflict", m.conflict(13), 128);
        CHECK.due("the second", m.stands(3 - side, 21), 21);
        CHECK.due("its conflict", m.conflict(21), 128);
        CHECK.due("one with another name", m.stands(3 - side, 22), 62);
        CHECK.due("nothing is where both were wanted", Check.file(m, 3, 61), "none");
    }

    /** The other side has renamed the new place itself: then the file stays, without a conflict. */
    private static void leavesWhatWouldGoOn(int side) {
        leavesWhatWouldGoOnTo(side, 4);
        leavesWhatWouldGoOnTo(side, 0);
    }

    private static void leavesWhatWouldGoOnTo(int side, int last) {
        RenameMerge m = with(8, 56);
        move(m, side, 8, 57);
        move(m, 3 - side, 56, 8 * last);
        m.put(3 - side, 13, 0xFEDC, false);
        m.merge();
        CHECK.due("newPlace by the side", m.newPlace(side, 1), 7);
        CHECK.due("newPlace by the other", m.newPlace(3 - side, 7), last);
        CHECK.due("the file stays", m.stands(3 - side, 13), 13);
        CHECK.due("no conflict", m.conflict(13), 0);
        CHECK.due("the side's own file is moved on", m.stands(side, 57), 8 * last + 1);
    }

    /** A split directory has no new place, so files are wanted there. */
    private static void goesToSplitDirectories(int side) {
        RenameMerge m = with(8, 56, 57);
        move(m, side, 8, 59);
        move(m, 3 - side, 56, 32);
        move(m, 3 - side, 57, 40);
        m.put(3 - side, 13, 0xFEDC, false);
        m.merge();
        CHECK.due("newPlace by the side", m.newPlace(side, 1), 7);
        CHECK.due("split by the other", m.newPlace(3 - side, 7), RenameMerge.SPLIT);
        CHECK.due("the file is moved", m.stands(3 - side, 13), 61);
        CHECK.due("no conflict", m.conflict(13), 0);
        CHECK.due("the side's file in the split one", m.stands(side, 59), 59);
        CHECK.due("its conflict", m.conflict(59), 128);
    }

    /** A file that t renamed into a directory that s renamed: renamed tells the target, not the stand. */
    private static void movesRenamedFiles(int side) {
        RenameMerge m = with(8, 40);
        move(m, side, 8, 16);
        move(m, 3 - side, 40, 13);
        CHECK.due("merge", m.merge(), 0);
        CHECK.due("renamed", m.renamed(3 - side, 40), 13);
        CHECK.due("stands", m.stands(3 - side, 13), 21);
        CHECK.due("newPlace of its old directory", m.newPlace(3 - side, 5), 1);
        CHECK.due("the result at the stand", m.kind(3, 21), 1);
        CHECK.due("the result at the target", m.kind(3, 13), 0);
        CHECK.due("the result at the source", m.kind(3, 40), 0);
    }

    /** Files of both sides may be moved to one path; there they are merged. */
    private static void bothSidesMeet() {
        RenameMerge m = with(8, 16);
        move(m, 1, 8, 56);
        move(m, 2, 16, 57);
        m.put(2, 13, 0xFEDC, false);
        m.put(1, 21, 0xFED8, false);
        CHECK.due("merge", m.merge(), 1);
        CHECK.due("theirs", m.stands(2, 13), 61);
        CHECK.due("ours", m.stands(1, 21), 61);
        CHECK.due("the conflict is ADDED", m.conflict(61), 2);
        CHECK.due("the result", Check.file(m, 3, 61), "plain 16 8 13 14 15 18 12 13 14 15 19");
    }

    private static void answersWrongInputs() {
        RenameMerge m = with(0, 63);
        move(m, 1, 0, 8);
        move(m, 2, 63, 55);
        m.merge();
        for (int side : new int[] {0, 3, -1, Integer.MIN_VALUE, Integer.MAX_VALUE}) {
            CHECK.due("newPlace(" + side + ", 0)", m.newPlace(side, 0), NONE);
            CHECK.due("stands(" + side + ", 8)", m.stands(side, 8), NONE);
        }
        for (int n : new int[] {-1, 8, 64, Integer.MIN_VALUE, Integer.MAX_VALUE}) {
            CHECK.due("newPlace(1, " + n + ")", m.newPlace(1, n), NONE);
        }
        for (int n : new int[] {-1, 64, Integer.MIN_VALUE, Integer.MAX_VALUE}) {
            CHECK.due("stands(1, " + n + ")", m.stands(1, n), NONE);
        }
        CHECK.due("the first directory", m.newPlace(1, 0), 1);
        CHECK.due("the last directory", m.newPlace(2, 7), 6);
        CHECK.due("the last path", m.stands(1, 63), 63);
    }
}
