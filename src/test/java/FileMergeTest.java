/** Promises 7 merge, 12 conflict, 13 staged and 14 stagedLine where nothing is renamed: the file merge. */
public final class FileMergeTest {
    private static final Check CHECK = new Check();
    private static final int AT = 11;
    private static final int[] NO_PATHS = {-1, 64, Integer.MIN_VALUE, Integer.MAX_VALUE};

    public static void main(String[] args) {
        takesOneOfThem();
        saysDropped();
        saysKinds();
        mergesLines();
        stagesWhereConflictsAre();
        answersWrongInputs();
        keepsTheTrees();
        CHECK.end();
    }

    /** Puts a file by words: "none", "plain 21", "link 3"; the text's digits in hexadecimal. */
    private static void lay(RenameMerge m, int tree, String file) {
        if (!file.equals("none")) {
            String[] words = file.split(" ");
            m.put(tree, AT, Integer.parseUnsignedInt(words[1], 16), words[0].equals("link"));
        }
    }

    private static RenameMerge merged(String o, String a, String b) {
        RenameMerge m = new RenameMerge(50);
        lay(m, 0, o);
        lay(m, 1, a);
        lay(m, 2, b);
        int conflicts = m.merge();
        CHECK.due("merge answers for " + o + ", " + a + ", " + b, conflicts, m.conflict(AT) == 0 ? 0 : 1);
        return m;
    }

    private static void expect(String o, String a, String b, String result, int codes) {
        RenameMerge m = merged(o, a, b);
        CHECK.due("the result of " + o + ", " + a + ", " + b, Check.file(m, 3, AT), result);
        CHECK.due("the conflict of " + o + ", " + a + ", " + b, m.conflict(AT), codes);
        CHECK.due("size(3)", m.size(3), result.equals("none") ? 0 : 1);
    }

    private static void takesOneOfThem() {
        expect("none", "none", "none", "none", 0);
        expect("plain 1", "none", "none", "none", 0);
        expect("plain 1", "plain 2", "plain 2", "plain 2", 0);
        expect("none", "link 2", "link 2", "link 2", 0);
        expect("none", "none", "plain 2", "plain 2", 0);
        expect("plain 1", "plain 1", "link 1", "link 1", 0);
        expect("plain 1", "plain 1", "none", "none", 0);
        expect("link 1", "link 1", "none", "none", 0);
        expect("none", "plain 0", "none", "plain", 0);
        expect("plain 1", "none", "plain 1", "none", 0);
        expect("link 1", "plain 3", "link 1", "plain 3", 0);
    }

    private static void saysDropped() {
        expect("plain 1", "none", "plain 2", "plain 2", 4);
        expect("plain 1", "plain 2", "none", "plain 2", 4);
        expect("plain 1", "link 1", "none", "link 1", 4);
        expect("link 1", "none", "link 2", "link 2", 4);
    }

    private static void saysKinds() {
        expect("link 1", "plain 2", "plain 3", "plain 2", 8);
        expect("plain 1", "link 1", "plain 3", "link 1", 8);
        expect("plain 1", "plain 3", "link 1", "plain 3", 8);
        expect("none", "plain 1", "link 1", "plain 1", 8);
        expect("none", "link 1", "link 2", "link 1", 8);
        expect("link 1", "link 2", "link 3", "link 2", 8);
    }

    private static void mergesLines() {
        expect("plain 1", "plain 2", "plain 3", "plain 16 2 18 3 19", 1);
        expect("none", "plain 2", "plain 3", "plain 16 2 18 3 19", 2);
        expect("plain 0", "plain 2", "plain 3", "plain 16 2 18 3 19", 1);
        expect("plain 321", "plain 324", "plain 521", "plain 4 2 5", 0);
        expect("none", "plain 12", "plain 0", "plain 2 1", 0);
    }

    private static void stagesWhereConflictsAre() {
        RenameMerge m = merged("plain 1", "plain 32", "plain 0");
        CHECK.due("staged of version 0", Check.staged(m, 0, AT), "lines 1");
        CHECK.due("staged of version 1", Check.staged(m, 1, AT), "lines 2 3");
        CHECK.due("staged of version 2", Check.staged(m, 2, AT), "lines");
        CHECK.due("a line behind the last", m.stagedLine(1, AT, 2), 0);
        CHECK.due("a line before the first", m.stagedLine(1, AT, -1), 0);
        CHECK.due("a line of no lines", m.stagedLine(2, AT, 0), 0);
        m = merged("none", "link 5", "link 6");
        CHECK.due("no base is staged", Check.staged(m, 0, AT), "none");
        CHECK.due("a link is staged", Check.staged(m, 1, AT), "lines 5");
        m = merged("plain 1", "none", "plain 2");
        CHECK.due("no file of ours is staged", m.staged(1, AT), RenameMerge.NONE);
        CHECK.due("a line of it", m.stagedLine(1, AT, 0), 0);
        m = merged("plain 1", "plain 1", "plain 2");
        CHECK.due("no conflict, nothing staged", m.staged(2, AT), RenameMerge.NONE);
        CHECK.due("no conflict, no line staged", m.stagedLine(2, AT, 0), 0);
    }

    private static void answersWrongInputs() {
        RenameMerge m = merged("plain 1", "plain 2", "plain 3");
        for (int path : NO_PATHS) {
            CHECK.due("conflict(" + path + ")", m.conflict(path), 0);
            CHECK.due("staged(1, " + path + ")", m.staged(1, path), RenameMerge.NONE);
            CHECK.due("stagedLine(1, " + path + ", 0)", m.stagedLine(1, path, 0), 0);
        }
        for (int version : new int[] {-1, 3, 4, Integer.MIN_VALUE, Integer.MAX_VALUE}) {
            CHECK.due("staged of version " + version, m.staged(version, AT), RenameMerge.NONE);
            CHECK.due("stagedLine of version " + version, m.stagedLine(version, AT, 0), 0);
        }
        for (int i : new int[] {-1, 1, Integer.MIN_VALUE, Integer.MAX_VALUE}) {
            CHECK.due("stagedLine " + i, m.stagedLine(0, AT, i), 0);
        }
    }

    private static void keepsTheTrees() {
        RenameMerge m = merged("plain 1", "plain 2", "plain 3");
        CHECK.due("BASE stays", Check.file(m, 0, AT), "plain 1");
        CHECK.due("OURS stays", Check.file(m, 1, AT), "plain 2");
        CHECK.due("THEIRS stays", Check.file(m, 2, AT), "plain 3");
        m.put(1, AT, 0x9, false);
        m.drop(2, AT);
        m.drop(0, AT);
        CHECK.due("the conflict stays", m.conflict(AT), 1);
        CHECK.due("the result stays", Check.file(m, 3, AT), "plain 16 2 18 3 19");
        CHECK.due("what is staged of ours stays", Check.staged(m, 1, AT), "lines 2");
        CHECK.due("what is staged of theirs stays", Check.staged(m, 2, AT), "lines 3");
        CHECK.due("merge again", m.merge(), 0);
        CHECK.due("the conflict is gone", m.conflict(AT), 0);
        CHECK.due("nothing is staged", m.staged(1, AT), RenameMerge.NONE);
        CHECK.due("the new result", Check.file(m, 3, AT), "plain 9");
    }
}
