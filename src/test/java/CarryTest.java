/** Promises 7 merge, 12 conflict, 13 staged and 14 stagedLine where files are renamed. */
public final class CarryTest {
    private static final Check CHECK = new Check();

    public static void main(String[] args) {
        carriesByBoth();
        saysTwice();
        carriesByOne();
        mergesOnto();
        keepsOursAsA();
        mergesOntoWithoutConflict();
        saysGone();
        saysGoneWhereTheOtherHasAFile();
        countsEachCodeOnce();
        CHECK.end();
    }

    private static void expect(RenameMerge m, int path, String result, int codes, String... staged) {
        CHECK.due("the result at " + path, Check.file(m, 3, path), result);
        CHECK.due("the conflict at " + path, m.conflict(path), codes);
        for (int version = 0; version < staged.length; version++) {
            CHECK.due("staged of " + version + " at " + path, Check.staged(m, version, path), staged[version]);
        }
    }

    private static void carriesByBoth() {
        RenameMerge m = new RenameMerge(50);
        Check.everywhere(m, 1, 0x4321);
        Check.move(m, 1, 1, 30, 0x4326);
        Check.move(m, 2, 1, 30, 0x7321);
        CHECK.due("merge", m.merge(), 0);
        expect(m, 30, "plain 6 2 3 7", 0, "none", "none", "none");
        expect(m, 1, "none", 0);
        m.put(2, 30, 0x4327, false);
        CHECK.due("merge", m.merge(), 1);
        expect(m, 30, "plain 16 6 18 7 19 2 3 4", 1, "lines 1 2 3 4", "lines 6 2 3 4", "lines 7 2 3 4");
    }

    private static void saysTwice() {
        RenameMerge m = new RenameMerge(50);
        Check.everywhere(m, 1, 0x4321);
        Check.move(m, 1, 1, 30, 0x4326);
        Check.move(m, 2, 1, 40, 0x7321);
        CHECK.due("merge", m.merge(), 3);
        expect(m, 1, "none", 32, "lines 1 2 3 4", "none", "none");
        expect(m, 30, "plain 6 2 3 4", 32, "none", "lines 6 2 3 4", "none");
        expect(m, 40, "plain 1 2 3 7", 32, "none", "none", "lines 1 2 3 7");
    }

    private static void carriesByOne() {
        for (int side = 1; side <= 2; side++) {
            RenameMerge m = new RenameMerge(50);
            Check.everywhere(m, 1, 0x4321);
            Check.move(m, side, 1, 30, 0x4326);
            CHECK.due("merge", m.merge(), 0);
            expect(m, 30, "plain 6 2 3 4", 0);
            m.put(3 - side, 1, 0x7321, false);
            CHECK.due("merge", m.merge(), 0);
            expect(m, 30, "plain 6 2 3 7", 0);
            expect(m, 1, "none", 0);
            CHECK.due("size(3)", m.size(3), 1);
            m.put(3 - side, 1, 0x7321, true);
            CHECK.due("merge", m.merge(), 1);
            expect(m, 30, side == 1 ? "plain 6 2 3 4" : "link 1 2 3 7", 8, "lines 1 2 3 4");
        }
    }

    private static void mergesOnto() {
        RenameMerge m = new RenameMerge(50);
        Check.everywhere(m, 1, 0x4321);
        Check.move(m, 1, 1, 30, 0x4326);
        m.put(2, 1, 0x4327, false);
        m.put(2, 30, 0xBA, false);
        m.style(1);
        CHECK.due("merge", m.merge(), 1);
        CHECK.due("not renamed by theirs", m.renamed(2, 1), RenameMerge.NONE);
        expect(m, 30, "plain 16 16 6 17 1 18 7 19 2 3 4 17 18 10 11 19", 64 + 1 + 2,
                "none", "lines 16 6 17 1 18 7 19 2 3 4", "lines 10 11");
        expect(m, 1, "none", 0);
        CHECK.due("size(3)", m.size(3), 1);
    }

    /** Side 1's file is A even where side 2 renamed. */
    private static void keepsOursAsA() {
        RenameMerge m = new RenameMerge(50);
        Check.everywhere(m, 1, 0x4321);
        Check.move(m, 2, 1, 30, 0x4326);
        m.put(1, 1, 0x4327, false);
        m.put(1, 30, 0xBA, false);
        m.merge();
        expect(m, 30, "plain 16 10 11 18 16 7 18 6 19 2 3 4 19", 64 + 1 + 2,
                "none", "lines 10 11", "lines 16 7 18 6 19 2 3 4");
        m.put(1, 1, 0x4321, true);
        m.merge();
        expect(m, 30, "plain 10 11", 64 + 8, "none", "lines 10 11", "lines 1 2 3 4");
    }

    private static void mergesOntoWithoutConflict() {
        RenameMerge m = new RenameMerge(50);
        Check.everywhere(m, 1, 0x4321);
        Check.move(m, 1, 1, 30, 0x4326);
        m.put(2, 30, 0x7326, false);
        m.put(2, 1, 0x7321, false);
        CHECK.due("merge", m.merge(), 1);
        expect(m, 30, "plain 6 2 3 7", 64, "none", "lines 6 2 3 7", "lines 6 2 3 7");
        m.put(2, 30, 0, false);
        CHECK.due("merge", m.merge(), 1);
        expect(m, 30, "plain 6 2 3 7", 64, "none", "lines 6 2 3 7", "lines");
    }

    private static void saysGone() {
        for (int side = 1; side <= 2; side++) {
            RenameMerge m = new RenameMerge(50);
            Check.everywhere(m, 1, 0x4321);
            Check.move(m, side, 1, 30, 0x4326);
            m.drop(3 - side, 1);
            CHECK.due("merge", m.merge(), 1);
            expect(m, 30, "plain 6 2 3 4", 16, "lines 1 2 3 4");
            CHECK.due("staged of the side", Check.staged(m, side, 30), "lines 6 2 3 4");
            CHECK.due("staged of the other", Check.staged(m, 3 - side, 30), "none");
            expect(m, 1, "none", 0);
            m.put(side, 30, 0x4321, false);
            CHECK.due("merge", m.merge(), 1);
            expect(m, 30, "plain 1 2 3 4", 16, "lines 1 2 3 4");
        }
    }

    private static void saysGoneWhereTheOtherHasAFile() {
        RenameMerge m = new RenameMerge(50);
        Check.everywhere(m, 1, 0x4321);
        Check.move(m, 1, 1, 30, 0x4326);
        Check.move(m, 2, 1, 30, 0xA);
        CHECK.due("merge", m.merge(), 1);
        CHECK.due("renamed by theirs", m.renamed(2, 1), RenameMerge.NONE);
        expect(m, 30, "plain 16 6 2 3 4 18 10 19", 16 + 2, "none", "lines 6 2 3 4", "lines 10");
        m.put(2, 30, 0x4321, true);
        CHECK.due("merge", m.merge(), 1);
        expect(m, 30, "plain 6 2 3 4", 16 + 8, "none", "lines 6 2 3 4", "lines 1 2 3 4");
        expect(m, 1, "none", 0);
    }

    /** Both sides rename other files onto one path and both other versions are gone. */
    private static void countsEachCodeOnce() {
        RenameMerge m = new RenameMerge(50);
        m.put(0, 1, 0x4321, false);
        m.put(0, 2, 0x8765, false);
        m.put(1, 30, 0x4321, false);
        m.put(2, 30, 0x8765, false);
        CHECK.due("merge", m.merge(), 1);
        expect(m, 30, "plain 16 1 2 3 4 18 5 6 7 8 19", 16 + 2, "none", "lines 1 2 3 4", "lines 5 6 7 8");
        m.put(1, 2, 0x9765, false);
        m.put(2, 1, 0x4329, false);
        CHECK.due("merge", m.merge(), 1);
        expect(m, 30, "plain 16 9 2 3 4 18 5 6 7 9 19", 64 + 2, "none", "lines 9 2 3 4", "lines 5 6 7 9");
    }
}
