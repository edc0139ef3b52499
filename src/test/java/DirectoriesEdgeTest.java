/**
 * The boundary cases of DIRECTORIES, and so of the promises 16 and 17: for each sentence of the document that
 * names one a test of its own, at the boundary and one step to either side of it. Links are renamed only where
 * they are equal, so that most files here are links: then it is plain to see what is renamed.
 */
public final class DirectoriesEdgeTest {
    private static final Check CHECK = new Check();
    private static final int NONE = RenameMerge.NONE;
    private static final int SPLIT = RenameMerge.SPLIT;

    public static void main(String[] args) {
        newPlaces();
        split();
        wanted();
        taken();
        standing();
        told();
        CHECK.end();
    }

    /** The new places by a side that has the tree, whichever side it is. */
    private static void expectPlaces(String base, String tree, String places) {
        for (int side = 1; side <= 2; side++) {
            RenameMerge m = Scene.mergedBy(side, base, tree, base);
            CHECK.due("places by " + side + " of " + base + " to " + tree, Scene.places(m, side), places);
            CHECK.due("places by the other of " + base, Scene.places(m, 3 - side), "");
        }
    }

    /** Where the files of t stand that stand elsewhere, and all conflicts; s and t are each of the sides. */
    private static void expectStands(String base, String s, String t, String moved, String conflicts) {
        for (int side = 1; side <= 2; side++) {
            String what = base + " to " + s + " and " + t + " by " + side;
            RenameMerge m = Scene.mergedBy(side, base, s, t);
            CHECK.due("moved: " + what, Scene.moved(m, 3 - side), moved);
            CHECK.due("conflicts: " + what, Scene.conflicts(m), conflicts);
        }
    }

    private static void newPlaces() {
        CHECK.sentence("Let s have no file in directory d", DirectoriesEdgeTest::noFileIn);
        CHECK.sentence("let at least one path in d be renamed by s", DirectoriesEdgeTest::atLeastOneRenamed);
        CHECK.sentence("those with the greatest number of such renames: if there is only one, e, it is the NEW"
                + " PLACE of d by s", DirectoriesEdgeTest::onlyOne);
        CHECK.sentence("if there are more, d is SPLIT by s", DirectoriesEdgeTest::more);
        CHECK.sentence("(Other directories have no new place and are not split.)", DirectoriesEdgeTest::others);
    }

    private static void noFileIn() {
        expectPlaces("8~1 9~2", "16~1 9~2", "");
        expectPlaces("8~1 9~2", "16~1 17~2", "1>2");
        expectPlaces("8~1 9~2", "16~1 17~2 15~3", "");
        expectPlaces("8~1 9~2", "16~1 17~2 10:", "");
        expectPlaces("8~1 9~2", "16~1 9~3", "");
        expectPlaces("8~1 9~2", "16~1", "1>2");
        expectPlaces("8~1 9~2", "16~1 17~2 7~3 24~4", "1>2");
        expectPlaces("8~1", "9~1", "");
    }

    private static void atLeastOneRenamed() {
        expectPlaces("8~1 9~2", "", "");
        expectPlaces("8~1 9~2", "16~3 17~4", "");
        expectPlaces("8~1 9~2", "16~1", "1>2");
        expectPlaces("8~1 9~2 10~3 11~4 12~5 13~6 14~7 15~8", "63~8", "1>7");
        expectPlaces("8~1 9~2 10~3 11~4 12~5 13~6 14~7 15~8", "56~1 57~2 58~3 59~4 60~5 61~6 62~7 63~8", "1>7");
    }

    /**
     * The files of directory 4 go to the directories in the order given, as many to each as are said, and then
     * to the same directories in the turned order: it does not matter which of them comes first.
     */
    private static void expectSpread(int[] directories, int[] counts, int want) {
        int[] turned = new int[counts.length];
        int[] turnedCounts = new int[counts.length];
        for (int i = 0; i < counts.length; i++) {
            turned[i] = directories[counts.length - 1 - i];
            turnedCounts[i] = counts[counts.length - 1 - i];
        }
        expectSpreadSo(directories, counts, want);
        expectSpreadSo(turned, turnedCounts, want);
    }

    private static void expectSpreadSo(int[] directories, int[] counts, int want) {
        StringBuilder base = new StringBuilder();
        StringBuilder tree = new StringBuilder();
        int name = 0;
        for (int i = 0; i < counts.length; i++) {
            for (int k = 0; k < counts[i]; k++) {
                base.append(' ').append(32 + name).append('~').append(name + 1);
                tree.append(' ').append(8 * directories[i] + name).append('~').append(name + 1);
                name++;
            }
        }
        String places = "4>" + (want == SPLIT ? "split" : String.valueOf(want));
        expectPlaces(base.substring(1), tree.substring(1), places);
    }

    private static void onlyOne() {
        expectSpread(new int[] {0}, new int[] {1}, 0);
        expectSpread(new int[] {7}, new int[] {8}, 7);
        expectSpread(new int[] {2, 3}, new int[] {1, 2}, 3);
        expectSpread(new int[] {2, 3}, new int[] {2, 1}, 2);
        expectSpread(new int[] {0, 7}, new int[] {3, 4}, 7);
        expectSpread(new int[] {0, 7}, new int[] {4, 3}, 0);
        expectSpread(new int[] {2, 3, 5}, new int[] {1, 1, 2}, 5);
        expectSpread(new int[] {2, 3, 5}, new int[] {1, 2, 1}, 3);
        expectSpread(new int[] {2, 3, 5}, new int[] {2, 1, 1}, 2);
        expectSpread(new int[] {2, 3, 5}, new int[] {2, 2, 3}, 5);
        expectSpread(new int[] {2, 3, 5}, new int[] {1, 2, 3}, 5);
        expectSpread(new int[] {0, 1, 2, 3, 5, 6, 7}, new int[] {1, 1, 1, 1, 1, 1, 2}, 7);
    }

    private static void more() {
        expectSpread(new int[] {2, 3}, new int[] {1, 1}, SPLIT);
        expectSpread(new int[] {2, 3}, new int[] {2, 2}, SPLIT);
        expectSpread(new int[] {0, 7}, new int[] {4, 4}, SPLIT);
        expectSpread(new int[] {2, 3, 5}, new int[] {1, 1, 1}, SPLIT);
        expectSpread(new int[] {2, 3, 5}, new int[] {2, 2, 1}, SPLIT);
        expectSpread(new int[] {2, 3, 5}, new int[] {2, 1, 2}, SPLIT);
        expectSpread(new int[] {2, 3, 5}, new int[] {1, 2, 2}, SPLIT);
        expectSpread(new int[] {2, 3, 5}, new int[] {3, 3, 2}, SPLIT);
        expectSpread(new int[] {0, 1, 2, 3, 5, 6, 7}, new int[] {1, 1, 1, 1, 1, 1, 1}, SPLIT);
        expectSpread(new int[] {0, 1, 2, 3, 5, 6}, new int[] {1, 1, 1, 1, 2, 2}, SPLIT);
        expectPlaces("8~1 9~2", "8~1 17~2", "");
        expectPlaces("8~1 9~2 10~3", "8~1 17~2 26~3", "");
    }

    private static void others() {
        expectPlaces("", "", "");
        expectPlaces("8~1", "8~1", "");
        expectPlaces("0~1 63~2", "8~1 55~2", "0>1 7>6");
        expectPlaces("8~1 16~2", "56~1 57~2", "1>7 2>7");
        expectPlaces("8~1 16~2", "17~1 9~2", "");
        expectPlaces("8~1 9~2 16~3", "24~1 32~2 40~3", "1>split 2>5");
        expectPlaces("8~1 16~2", "17~1", "1>2");
    }

    private static void split() {
        CHECK.sentence("If d is SPLIT by s: conflict DIRECTORY at x.", DirectoriesEdgeTest::splitByS);
    }

    private static void splitByS() {
        expectStands("8~1 9~2", "16~1 25~2", "8~1 9~2 13:5", "", "13:128");
        expectStands("8~1 9~2", "16~1 25~2", "8~1 9~2 13~5", "", "13:128");
        expectStands("8~1 9~2", "16~1 25~2", "8~1 9~2 10: 15:6", "", "10:128 15:128");
        expectStands("8~1 9~2", "16~1 25~2", "8~1 9~2 7:5 16:6", "", "16:72");
        expectStands("8~1 9~2", "16~1 25~2", "8~1 9~2", "", "");
        expectStands("8~1 9~2 10~3", "16~1 25~2 26~3", "8~1 9~2 10~3 13:5", "13>29", "");
        expectStands("8~1 9~2 13:5", "16~1 25~2", "8~1 9~2 13:6", "", "13:4");
    }

    private static void wanted() {
        CHECK.sentence("A file of side t at a path x in directory d, where BASE has none at x",
                DirectoriesEdgeTest::baseHasNone);
        CHECK.sentence("If d has a new place e by s and e has no new place by t", DirectoriesEdgeTest::hasNewPlace);
        CHECK.sentence("e has no new place by t", DirectoriesEdgeTest::hasNoneByT);
        CHECK.sentence("e has no new place by t", DirectoriesEdgeTest::splitByT);
        CHECK.sentence("the file is WANTED at y = 8 * e + x % 8", DirectoriesEdgeTest::wantedAt);
    }

    private static void baseHasNone() {
        expectStands("8~1", "56~1", "8~1 13:5", "13>61", "");
        expectStands("8~1 13:6", "56~1", "8~1 13:5", "", "13:4");
        expectStands("8~1 13:5", "56~1", "8~1 13:5", "", "");
        expectStands("8~1 40~2", "56~1 40~2", "8~1 13~2", "13>61", "");
    }

    /** With one file of s left in d it has no new place; then the file of t stays, and no conflict is there. */
    private static void hasNewPlace() {
        expectStands("8~1 9~2", "56~1 57~2", "8~1 9~2 13:5", "13>61", "");
        expectStands("8~1 9~2", "56~1 9~2", "8~1 9~2 13:5", "", "");
        expectStands("8~1 9~2", "8~1 9~2", "8~1 9~2 13:5", "", "");
        expectStands("8~1 9~2", "", "8~1 9~2 13:5", "", "");
        expectStands("8~1 9~2", "56~1 57~2", "8~1 9~2 5:5 21:6", "", "");
    }

    /** Directory 7 goes on to 4, or to 0, by t: then nothing is wanted in it; while t has a file there, it is. */
    private static void hasNoneByT() {
        expectStands("8~1 56~2", "57~1 56~2", "8~1 32~2 13:5", "", "");
        expectStands("8~1 56~2", "57~1 56~2", "8~1 0~2 13:5", "", "");
        expectStands("8~1 56~2", "57~1 56~2", "8~1 32~2 58:6 13:5", "13>61", "");
        expectStands("8~1 56~2", "57~1 56~2", "8~1 56~2 13:5", "13>61", "");
        expectStands("8~1 56~2", "57~1 56~2", "8~1 13:5", "13>61", "");
        RenameMerge m = Scene.merged(50, "8~1 56~2", "57~1 56~2", "8~1 32~2 13:5");
        CHECK.due("the new place by s", Scene.places(m, 1), "1>7");
        CHECK.due("the new place by t", Scene.places(m, 2), "7>4");
        CHECK.due("the file of s goes on", Scene.moved(m, 1), "57>33");
        CHECK.due("the result", Scene.tree(m, 3), "13:5 32~2 33~1");
    }

    /** A directory that is SPLIT by t has no new place by t: the file is WANTED there as in any other. */
    private static void splitByT() {
        String base = "8~1 56~2 57~3";
        String s = "59~1 56~2 57~3";
        expectStands(base, s, "8~1 32~2 40~3 13:5", "13>61", "59:128");
        expectStands(base, s, "8~1 32~2 33~3 13:5", "", "");
        expectStands(base, s, "8~1 32~2 40~3 9:5 15:6", "15>63", "9:128 59:128");
        expectStands("8~1 16~4 56~2 57~3", "59~1 60~4 56~2 57~3", "8~1 16~4 32~2 40~3 13:5 21:6", "",
                "13:128 21:128 59:128 60:128");
        RenameMerge m = Scene.merged(50, base, s, "8~1 32~2 40~3 13:5");
        CHECK.due("the new place by s", Scene.places(m, 1), "1>7");
        CHECK.due("split by t", Scene.places(m, 2), "7>split");
        CHECK.due("the result", Scene.tree(m, 3), "32~2 40~3 59~1 61:5");
    }

    private static void wantedAt() {
        for (int d = 0; d < 8; d++) {
            for (int e = 0; e < 8; e++) {
                int used = (d + e) % 8;
                int name = (used + 1 + d) % 8 == used ? (used + 1) % 8 : (used + 1 + d) % 8;
                if (d != e) {
                    String base = 8 * d + used + "~1";
                    String moved = (8 * d + name) + ">" + (8 * e + name);
                    expectStands(base, 8 * e + used + "~1", base + " " + (8 * d + name) + ":5", moved, "");
                }
            }
        }
        expectStands("8~1", "56~1", "8~1 9:2 10:3 11:4 12:5 13:6 14:7 15:8",
                "9>57 10>58 11>59 12>60 13>61 14>62 15>63", "");
        expectStands("15~1", "63~1", "15~1 8:2", "8>56", "");
    }

    private static void taken() {
        String taken = "if BASE, OURS or THEIRS has a file at y";
        CHECK.sentence(taken, DirectoriesEdgeTest::takenByBase);
        CHECK.sentence(taken, DirectoriesEdgeTest::takenByS);
        CHECK.sentence(taken, DirectoriesEdgeTest::takenByT);
        CHECK.sentence("or another file of t is wanted at y too", DirectoriesEdgeTest::wantedTwice);
        CHECK.sentence("or another file of t is wanted at y too", DirectoriesEdgeTest::wantedByBothSides);
    }

    private static void takenByBase() {
        expectStands("8~1 61:9", "56~1", "8~1 13:5", "", "13:128");
        expectStands("8~1 60:9 62:9", "56~1", "8~1 13:5", "13>61", "");
        expectStands("8~1 61~9", "56~1 61~9", "8~1 13:5 61~9", "", "13:128");
        expectStands("8~1 53:9", "56~1", "8~1 13:5", "13>61", "");
    }

    private static void takenByS() {
        expectStands("8~1", "56~1 61:9", "8~1 13:5", "", "13:128");
        expectStands("8~1", "56~1 60:9 62:9", "8~1 13:5", "13>61", "");
        expectStands("8~1", "61~1", "8~1 13:5", "", "13:128");
        expectStands("8~1", "60~1", "8~1 13:5", "13>61", "");
        expectStands("8~1", "56~1 61:5", "8~1 13:5", "", "13:128");
    }

    private static void takenByT() {
        expectStands("8~1", "56~1", "8~1 13:5 61:9", "", "13:128");
        expectStands("8~1", "56~1", "8~1 13:5 60:9 62:9", "13>61", "");
        expectStands("8~1", "56~1", "8~1 13:5 61:5", "", "13:128");
        expectStands("8~1", "56~1", "8~1 13:5 61: 14:6", "14>62", "13:128");
    }

    private static void wantedTwice() {
        expectStands("8~1 16~2", "56~1 57~2", "8~1 16~2 13:5 21:6", "", "13:128 21:128");
        expectStands("8~1 16~2", "56~1 57~2", "8~1 16~2 13:5 21:5", "", "13:128 21:128");
        expectStands("8~1 16~2", "56~1 57~2", "8~1 16~2 13:5 22:6", "13>61 22>62", "");
        expectStands("8~1 16~2", "56~1 57~2", "8~1 16~2 13:5", "13>61", "");
        expectStands("8~1 16~2", "56~1 49~2", "8~1 16~2 13:5 21:6", "13>61 21>53", "");
        expectStands("8~1 16~2 24~3", "56~1 57~2 58~3", "8~1 16~2 24~3 13:5 21:6 29:7", "",
                "13:128 21:128 29:128");
        expectStands("8~1 16~2 24~3", "56~1 57~2 58~3", "8~1 16~2 24~3 13:5 21:6 30:7", "30>62",
                "13:128 21:128");
        expectStands("1~1 9~2", "25~1 26~2", "1~1 9~2 0:5 8:6", "", "0:128 8:128");
        expectStands("1~1 9~2", "25~1 26~2", "1~1 9~2 0:5 10:6", "0>24", "10:128");
        expectStands("48~1 56~2", "24~1 25~2", "48~1 56~2 55:5 63:6", "", "55:128 63:128");
        expectStands("48~1 56~2", "24~1 25~2", "48~1 56~2 54:5 63:6", "54>30 63>31", "");
        expectStands("8~1 16~2 21:6", "56~1 57~2", "8~1 16~2 21:6 13:5", "13>61", "");
        expectStands("8~1 16~2", "56~1 57~2 61:9", "8~1 16~2 13:5 21:6", "", "13:128 21:128");
    }

    /** It is only another file of the same side that keeps a file away. */
    private static void wantedByBothSides() {
        RenameMerge m = Scene.merged(50, "8~1 16~2", "56~1 16~2 21:34", "8~1 57~2 13:34");
        CHECK.due("of side 1", Scene.moved(m, 1), "21>61");
        CHECK.due("of side 2", Scene.moved(m, 2), "13>61");
        CHECK.due("no conflict of equal files", Scene.conflicts(m), "");
        CHECK.due("the result", Scene.tree(m, 3), "56~1 57~2 61:34");
        m = Scene.merged(50, "8~1 16~2", "56~1 16~2 21:34", "8~1 57~2 13:56");
        CHECK.due("a conflict of others", Scene.conflicts(m), "61:2");
        CHECK.due("their result", Scene.tree(m, 3), "56~1 57~2 61:<34=56>");
    }

    private static void standing() {
        CHECK.sentence("otherwise the file STANDS at y.", DirectoriesEdgeTest::standsAtY);
        CHECK.sentence("In all other cases, and for all other files of t, it STANDS at its own path",
                DirectoriesEdgeTest::standsAtItsOwn);
        CHECK.sentence("(so too where a conflict DIRECTORY is)", DirectoriesEdgeTest::standsWithConflict);
    }

    private static void standsAtY() {
        for (int side = 1; side <= 2; side++) {
            RenameMerge m = Scene.mergedBy(side, "8~1", "56~1", "8~1 13:5 15~6");
            CHECK.due("a plain file", m.stands(3 - side, 13), 61);
            CHECK.due("a link", m.stands(3 - side, 15), 63);
            CHECK.due("no file is at y in the tree", m.stands(3 - side, 61), NONE);
            CHECK.due("the result", Scene.tree(m, 3), "56~1 61:5 63~6");
            CHECK.due("the tree stays", Scene.tree(m, 3 - side), "8~1 13:5 15~6");
        }
    }

    private static void standsAtItsOwn() {
        for (int side = 1; side <= 2; side++) {
            RenameMerge m = Scene.mergedBy(side, "8~1 9~2", "56~1", "8~1 9~3 0:4 23:5 63:6");
            for (int path : new int[] {8, 9, 0, 23, 63}) {
                CHECK.due("path " + path, m.stands(3 - side, path), path);
            }
            CHECK.due("of the side itself", m.stands(side, 56), 56);
            CHECK.due("what the side has no more", m.stands(side, 8), NONE);
        }
    }

    private static void standsWithConflict() {
        for (int side = 1; side <= 2; side++) {
            RenameMerge m = Scene.mergedBy(side, "8~1 9~2", "16~1 25~2", "8~1 9~2 13:5");
            CHECK.due("in a split directory", m.stands(3 - side, 13), 13);
            CHECK.due("its result", Scene.file(m, 3, 13), ":5");
            CHECK.due("it is staged", Scene.staged(m, 13), side == 1 ? "none none (5)" : "none (5) none");
            m = Scene.mergedBy(side, "8~1", "56~1 61:9", "8~1 13:5");
            CHECK.due("where the path is taken", m.stands(3 - side, 13), 13);
            CHECK.due("its result there", Scene.tree(m, 3), "13:5 56~1 61:9");
            CHECK.due("the other file is not in conflict", m.conflict(61), 0);
            m = Scene.mergedBy(side, "8~1 16~2", "56~1 57~2", "8~1 16~2 13:5 21:6");
            CHECK.due("the first that is wanted", m.stands(3 - side, 13), 13);
            CHECK.due("the second that is wanted", m.stands(3 - side, 21), 21);
            CHECK.due("their results", Scene.tree(m, 3), "13:5 21:6 56~1 57~2");
        }
    }

    private static void told() {
        CHECK.sentence("NONE otherwise (also when side is not 1 or 2, there is no such directory, or there was no"
                + " merge yet).", DirectoriesEdgeTest::noPlaceTold);
        CHECK.sentence("SPLIT when it was split", DirectoriesEdgeTest::splitTold);
        CHECK.sentence("where the file stood that the side's tree had at the path then",
                DirectoriesEdgeTest::standTold);
        CHECK.sentence("NONE when it had none there, side is not 1 or 2, or there was no merge yet.",
                DirectoriesEdgeTest::noStandTold);
    }

    private static void noPlaceTold() {
        RenameMerge m = Scene.laid(50, "0~1 63~2", "8~1 55~2", "8~1 55~2");
        CHECK.due("no merge yet", m.newPlace(1, 0), NONE);
        m.merge();
        for (int side = 1; side <= 2; side++) {
            CHECK.due("directory 0", m.newPlace(side, 0), 1);
            CHECK.due("directory 7", m.newPlace(side, 7), 6);
            for (int directory : new int[] {Integer.MIN_VALUE, -8, -1, 1, 6, 8, 9, 63, Integer.MAX_VALUE}) {
                CHECK.due("directory " + directory, m.newPlace(side, directory), NONE);
            }
        }
        for (int side : new int[] {Integer.MIN_VALUE, -1, 0, 3, 4, Integer.MAX_VALUE}) {
            CHECK.due("side " + side, m.newPlace(side, 0), NONE);
        }
    }

    private static void splitTold() {
        RenameMerge m = Scene.merged(50, "8~1 9~2 10~3", "16~1 25~2", "8~1 9~2 10~3");
        CHECK.due("split", m.newPlace(1, 1), SPLIT);
        CHECK.due("not by the other", m.newPlace(2, 1), NONE);
        Scene.lay(m, 1, "26~3");
        CHECK.due("it was split in the latest merge", m.newPlace(1, 1), SPLIT);
        m.merge();
        CHECK.due("one file more", m.newPlace(1, 1), 3);
        m.drop(1, 26);
        m.drop(1, 25);
        m.merge();
        CHECK.due("two files less", m.newPlace(1, 1), 2);
        m.drop(1, 16);
        m.merge();
        CHECK.due("no file", m.newPlace(1, 1), NONE);
    }

    private static void standTold() {
        RenameMerge m = Scene.merged(50, "8~1", "56~1", "8~1 13:5");
        m.drop(2, 13);
        m.put(2, 14, 6, false);
        m.put(1, 8, 1, false);
        CHECK.due("what has been dropped since", m.stands(2, 13), 61);
        CHECK.due("what has come since", m.stands(2, 14), NONE);
        CHECK.due("what has come since into the side", m.stands(1, 8), NONE);
        m.merge();
        CHECK.due("in the next merge, none", m.stands(2, 13), NONE);
        CHECK.due("in the next merge, one", m.stands(2, 14), 14);
    }

    private static void noStandTold() {
        RenameMerge m = Scene.laid(50, "", "0:1 63:2", "0:1 63:2");
        CHECK.due("no merge yet", m.stands(1, 0), NONE);
        m.merge();
        for (int side = 1; side <= 2; side++) {
            CHECK.due("the first path", m.stands(side, 0), 0);
            CHECK.due("the last path", m.stands(side, 63), 63);
            for (int path : new int[] {Integer.MIN_VALUE, -1, 1, 62, 64, 65, Integer.MAX_VALUE}) {
                CHECK.due("path " + path, m.stands(side, path), NONE);
            }
        }
        for (int side : new int[] {Integer.MIN_VALUE, -1, 0, 3, 4, Integer.MAX_VALUE}) {
            CHECK.due("side " + side, m.stands(side, 0), NONE);
        }
    }
}
