/** Promises 6 style and 7 merge: the line merge of three texts, in each style. */
public final class LineMergeTest {
    private static final Check CHECK = new Check();

    public static void main(String[] args) {
        mergesWithoutConflict();
        writesConflicts();
        trimsInStyle2();
        choosesTheFirstMatching();
        cutsAtAnchorsAlone();
        staysInItsStyle();
        addsWithoutBase();
        writesTheLongestText();
        CHECK.end();
    }

    private static String merged(int style, int o, int a, int b) {
        RenameMerge m = new RenameMerge(50);
        m.put(0, 20, o, false);
        m.put(1, 20, a, false);
        m.put(2, 20, b, false);
        m.style(style);
        int conflicts = m.merge();
        String text = Check.file(m, 3, 20);
        CHECK.due("marks and conflict go together", m.conflict(20), text.contains("16") ? 1 : 0);
        CHECK.due("merge answers", conflicts, text.contains("16") ? 1 : 0);
        return text;
    }

    private static void mergesWithoutConflict() {
        for (int style = 0; style <= 2; style++) {
            CHECK.due("both ends", merged(style, 0x4321, 0x4325, 0x6321), "plain 5 2 3 6");
            CHECK.due("A = O in a gap", merged(style, 0x321, 0x4321, 0x3251), "plain 1 5 2 3 4");
            CHECK.due("A = B in a gap", merged(style, 0x4321, 0x4391, 0x74391), "plain 1 9 3 4 7");
            CHECK.due("both take away", merged(style, 0x54321, 0x5432, 0x4321), "plain 2 3 4");
            CHECK.due("A empties, B keeps", merged(style, 0x21, 0, 0x21), "plain");
            CHECK.due("the same line before different ones", merged(style, 0x321, 0x3721, 0x3281), "plain 1 8 2 7 3");
        }
    }

    private static void writesConflicts() {
        CHECK.due("style 0", merged(0, 0x321, 0x341, 0x351), "plain 1 16 4 18 5 19 3");
        CHECK.due("style 1", merged(1, 0x321, 0x341, 0x351), "plain 1 16 4 17 2 18 5 19 3");
        CHECK.due("style 2", merged(2, 0x321, 0x341, 0x351), "plain 1 16 4 17 2 18 5 19 3");
        CHECK.due("A empty, style 0", merged(0, 0x321, 0x31, 0x351), "plain 1 16 18 5 19 3");
        CHECK.due("B empty, style 1", merged(1, 0x321, 0x341, 0x31), "plain 1 16 4 17 2 18 19 3");
        CHECK.due("O empty, style 1", merged(1, 0x31, 0x341, 0x351), "plain 1 16 4 17 18 5 19 3");
        CHECK.due("two gaps", merged(0, 0x21, 0x4231, 0x6251), "plain 1 16 3 18 5 19 2 16 4 18 6 19");
        CHECK.due("no anchor", merged(1, 0x21, 0x43, 0x65), "plain 16 3 4 17 1 2 18 5 6 19");
        CHECK.due("a gap that merges beside one that does not", merged(0, 0x321, 0x4324, 0x5321),
                "plain 4 2 3 16 4 18 5 19");
    }

    private static void trimsInStyle2() {
        CHECK.due("beginning and end", merged(2, 0x1, 0x4532, 0x4632), "plain 2 3 16 5 17 1 18 6 19 4");
        CHECK.due("style 1 trims nothing", merged(1, 0x1, 0x4532, 0x4632), "plain 16 2 3 5 4 17 1 18 2 3 6 4 19");
        CHECK.due("the beginning goes first", merged(2, 0x1, 0x22, 0x222), "plain 2 2 16 17 1 18 2 19");
        CHECK.due("what is left may be empty", merged(2, 0x1, 0x232, 0x2), "plain 2 16 3 2 17 1 18 19");
        CHECK.due("the end of what is left", merged(2, 0x1, 0x242, 0x22), "plain 2 16 4 17 1 18 19 2");
        CHECK.due("O stays whole", merged(2, 0x8722, 0x342, 0x352), "plain 2 16 4 17 2 7 8 18 5 19 3");
        CHECK.due("an empty O", merged(2, 0x1, 0x321, 0x421), "plain 1 2 16 3 17 18 4 19");
    }

    private static void choosesTheFirstMatching() {
        CHECK.due("the first line of o", merged(0, 0x21, 0x12, 0x321), "plain 2 1 16 18 2 3 19");
        CHECK.due("of equal lines of o the first", merged(0, 0x11, 0x1, 0x311), "plain 1 16 18 1 3 19");
        CHECK.due("of equal lines of x the first", merged(0, 0x1, 0x11, 0x12), "plain 2 1 1");
        CHECK.due("each line is paired once", merged(0, 0x11, 0x211, 0x113), "plain 3 1 1 2");
        CHECK.due("the most pairs before the first line", merged(0, 0x321, 0x132, 0x4321), "plain 2 3 16 1 18 4 19");
    }

    /** A line of o that one of the two does not have cuts nothing. */
    private static void cutsAtAnchorsAlone() {
        CHECK.due("O 1 2 3, A 1 2 4, B 5 2 3", merged(0, 0x321, 0x421, 0x325), "plain 5 2 4");
        CHECK.due("O 1 2 3, A 1 2 4, B 5 6 3", merged(0, 0x321, 0x421, 0x365), "plain 16 1 2 4 18 5 6 3 19");
    }

    private static void staysInItsStyle() {
        RenameMerge m = new RenameMerge(50);
        m.put(0, 20, 0x1, false);
        m.put(1, 20, 0x2, false);
        m.put(2, 20, 0x3, false);
        CHECK.due("style(1)", m.style(1), true);
        for (int s : new int[] {-1, 3, 4, Integer.MIN_VALUE, Integer.MAX_VALUE}) {
            CHECK.due("style(" + s + ")", m.style(s), false);
        }
        m.merge();
        CHECK.due("style 1 stays", Check.file(m, 3, 20), "plain 16 2 17 1 18 3 19");
        CHECK.due("style(0)", m.style(0), true);
        CHECK.due("an earlier merge keeps its style", Check.file(m, 3, 20), "plain 16 2 17 1 18 3 19");
        m.merge();
        CHECK.due("style 0 again", Check.file(m, 3, 20), "plain 16 2 18 3 19");
        m.merge();
        CHECK.due("style 0 stays", Check.file(m, 3, 20), "plain 16 2 18 3 19");
    }

    private static void addsWithoutBase() {
        RenameMerge m = new RenameMerge(50);
        m.put(1, 20, 0x21, false);
        m.put(2, 20, 0x31, false);
        m.style(2);
        CHECK.due("merge", m.merge(), 1);
        CHECK.due("both added", Check.file(m, 3, 20), "plain 1 16 2 17 18 3 19");
        CHECK.due("conflict ADDED", m.conflict(20), 2);
        m.put(2, 20, 0, false);
        CHECK.due("an empty text is as the empty O", m.merge(), 0);
        CHECK.due("the other is taken", Check.file(m, 3, 20), "plain 1 2");
    }

    /** Both versions at 40 are merges of 36 lines, and the result is their clash: 76 lines. */
    private static void writesTheLongestText() {
        RenameMerge m = new RenameMerge(50);
        m.put(0, 1, 0x84372615, false);
        m.put(1, 40, 0xC4B32A19, false);
        m.put(2, 1, 0xE4F3E21D, false);
        m.put(0, 2, 0x81273645, false);
        m.put(2, 40, 0xC1B23A49, false);
        m.put(1, 2, 0xE1F2E34D, false);
        m.style(1);
        CHECK.due("merge", m.merge(), 1);
        CHECK.due("conflicts", m.conflict(40), 64 + 2 + 1);
        CHECK.due("lines of version 1", m.staged(1, 40), 36);
        CHECK.due("lines of version 2", m.staged(2, 40), 36);
        CHECK.due("lines of the result", m.length(3, 40), 76);
        CHECK.due("version 1", Check.staged(m, 1, 40), "lines 16 9 17 5 18 13 19 1 16 10 17 6 18 19 2"
                + " 16 17 7 18 14 19 3 16 11 17 18 15 19 4 16 12 17 8 18 14 19");
        CHECK.due("the first line", m.line(3, 40, 0), 16);
        CHECK.due("the line before the old text", m.line(3, 40, 36), 19);
        CHECK.due("the old text", m.line(3, 40, 37), 17);
        CHECK.due("the middle", m.line(3, 40, 38), 18);
        CHECK.due("the last line", m.line(3, 40, 75), 19);
        CHECK.due("behind it", m.line(3, 40, 76), 0);
        CHECK.due("adopt", m.adopt(0), false);
    }
}
