/**
 * The boundary cases of FILE MERGE: each of its six cases, each of O, A and B being none, and one step from
 * each case to the next. A file is written as Scene writes it, without its path: ":12", "~12", or "none".
 */
public final class FileMergeEdgeTest {
    private static final Check CHECK = new Check();
    private static final int AT = 11;
    private static final int CONTENT = 1;
    private static final int ADDED = 2;
    private static final int DROPPED = 4;
    private static final int KINDS = 8;

    public static void main(String[] args) {
        CHECK.sentence("1. A and B are both none, or equal: A.", FileMergeEdgeTest::bothNone);
        CHECK.sentence("1. A and B are both none, or equal: A.", FileMergeEdgeTest::bothEqual);
        CHECK.sentence("2. O and A are both none, or equal: B.", FileMergeEdgeTest::noneInOursToo);
        CHECK.sentence("2. O and A are both none, or equal: B.", FileMergeEdgeTest::equalInOurs);
        CHECK.sentence("3. O and B are both none, or equal: A.", FileMergeEdgeTest::noneInTheirsToo);
        CHECK.sentence("3. O and B are both none, or equal: A.", FileMergeEdgeTest::equalInTheirs);
        CHECK.sentence("4. A or B is none: the other one of these two, with conflict DROPPED at the path.",
                FileMergeEdgeTest::oneIsNone);
        CHECK.sentence("5. O, A or B is a LINK: A, with conflict KINDS at the path.", FileMergeEdgeTest::links);
        CHECK.sentence("6. A PLAIN file with the line merge of the texts of O", FileMergeEdgeTest::plainFiles);
        CHECK.sentence("(the empty text, if O is none)", FileMergeEdgeTest::emptyTextForNone);
        CHECK.sentence("if a gap is in conflict, with conflict ADDED at the path when O is none, CONTENT when it"
                + " is not.", FileMergeEdgeTest::addedOrContent);
        CHECK.end();
    }

    private static void expect(String o, String a, String b, String result, int codes) {
        String what = o + ", " + a + ", " + b;
        RenameMerge m = Scene.laid(50, at(o), at(a), at(b));
        CHECK.due("the paths of " + what, m.merge(), codes == 0 ? 0 : 1);
        CHECK.due("the result of " + what, Scene.file(m, 3, AT), result);
        CHECK.due("the conflict of " + what, m.conflict(AT), codes);
        CHECK.due("the size of " + what, m.size(3), result.equals("none") ? 0 : 1);
        String staged = codes == 0 ? "none none none" : lines(o) + " " + lines(a) + " " + lines(b);
        CHECK.due("what is staged of " + what, Scene.staged(m, AT), staged);
    }

    private static String at(String file) {
        return file.equals("none") ? "" : AT + file;
    }

    private static String lines(String file) {
        return file.equals("none") ? file : "(" + file.substring(1) + ")";
    }

    private static void bothNone() {
        expect("none", "none", "none", "none", 0);
        expect(":1", "none", "none", "none", 0);
        expect("~1", "none", "none", "none", 0);
        expect(":", "none", "none", "none", 0);
    }

    private static void bothEqual() {
        expect("none", ":12", ":12", ":12", 0);
        expect("none", "~12", "~12", "~12", 0);
        expect("none", ":", ":", ":", 0);
        expect("none", "~", "~", "~", 0);
        expect(":1", ":12", ":12", ":12", 0);
        expect(":12", ":12", ":12", ":12", 0);
        expect("~1", ":12", ":12", ":12", 0);
        expect(":1", "~1", "~1", "~1", 0);
        expect(":1", ":", ":", ":", 0);
        expect("none", ":12", "~12", ":12", KINDS);
        expect("none", ":12", ":13", ":<12=13>", ADDED);
        expect(":3", ":12", ":1", ":<12=1>", CONTENT);
    }

    private static void noneInOursToo() {
        expect("none", "none", ":1", ":1", 0);
        expect("none", "none", "~1", "~1", 0);
        expect("none", "none", ":", ":", 0);
        expect(":2", "none", ":1", ":1", DROPPED);
        expect("none", ":", ":1", ":1", 0);
        expect("none", "~", ":1", "~", KINDS);
    }

    private static void equalInOurs() {
        expect(":12", ":12", "none", "none", 0);
        expect("~12", "~12", "none", "none", 0);
        expect(":", ":", "none", "none", 0);
        expect(":12", ":12", ":3", ":3", 0);
        expect(":12", ":12", ":", ":", 0);
        expect(":12", ":12", "~12", "~12", 0);
        expect("~12", "~12", ":12", ":12", 0);
        expect("~12", "~12", "~3", "~3", 0);
        expect(":", ":", "~", "~", 0);
        expect(":12", "~12", "none", "~12", DROPPED);
        expect(":12", ":1", "none", ":1", DROPPED);
        expect(":12", ":123", "none", ":123", DROPPED);
        expect(":12", "~12", ":3", "~12", KINDS);
    }

    private static void noneInTheirsToo() {
        expect("none", ":1", "none", ":1", 0);
        expect("none", "~1", "none", "~1", 0);
        expect("none", ":", "none", ":", 0);
        expect(":2", ":1", "none", ":1", DROPPED);
        expect("none", ":1", ":", ":1", 0);
        expect("none", ":1", "~", ":1", KINDS);
    }

    private static void equalInTheirs() {
        expect(":12", "none", ":12", "none", 0);
        expect("~12", "none", "~12", "none", 0);
        expect(":", "none", ":", "none", 0);
        expect(":12", ":3", ":12", ":3", 0);
        expect(":12", ":", ":12", ":", 0);
        expect(":12", "~12", ":12", "~12", 0);
        expect("~12", ":12", "~12", ":12", 0);
        expect("~12", "~3", "~12", "~3", 0);
        expect(":", "~", ":", "~", 0);
        expect(":12", "none", "~12", "~12", DROPPED);
        expect(":12", "none", ":1", ":1", DROPPED);
        expect(":12", "none", ":123", ":123", DROPPED);
        expect(":12", ":3", "~12", ":3", KINDS);
    }

    private static void oneIsNone() {
        expect(":1", "none", ":2", ":2", DROPPED);
        expect(":1", ":2", "none", ":2", DROPPED);
        expect(":1", "none", ":", ":", DROPPED);
        expect(":1", ":", "none", ":", DROPPED);
        expect(":", "none", "~", "~", DROPPED);
        expect(":", "~", "none", "~", DROPPED);
        expect("~1", "none", "~2", "~2", DROPPED);
        expect("~1", "~2", "none", "~2", DROPPED);
        expect("~1", "none", ":1", ":1", DROPPED);
        expect("~1", ":1", "none", ":1", DROPPED);
        expect(":1", ":1", "none", "none", 0);
        expect(":1", "none", ":1", "none", 0);
        expect("none", "none", ":2", ":2", 0);
        expect("none", ":2", "none", ":2", 0);
    }

    /** Each of the three alone, two of them, and all: only where none of them is a LINK lines are merged. */
    private static void links() {
        expect("~1", ":2", ":3", ":2", KINDS);
        expect(":1", "~2", ":3", "~2", KINDS);
        expect(":1", ":2", "~3", ":2", KINDS);
        expect("~1", "~2", ":3", "~2", KINDS);
        expect("~1", ":2", "~3", ":2", KINDS);
        expect(":1", "~2", "~3", "~2", KINDS);
        expect("~1", "~2", "~3", "~2", KINDS);
        expect("none", "~2", ":3", "~2", KINDS);
        expect("none", ":2", "~3", ":2", KINDS);
        expect("none", "~2", "~3", "~2", KINDS);
        expect("~", ":", ":3", ":", KINDS);
        expect("~", ":1", ":", ":1", KINDS);
        expect("~123", ":124", ":523", ":124", KINDS);
        expect(":1", ":2", ":3", ":<2=3>", CONTENT);
    }

    private static void plainFiles() {
        expect(":123", ":124", ":523", ":524", 0);
        expect(":123", ":124", ":125", ":12<4=5>", CONTENT);
        expect(":123", ":12", ":23", ":2", 0);
        expect(":12", ":1", ":2", ":<1=2>", CONTENT);
        expect(":12", ":", ":2", ":<=2>", CONTENT);
        expect(":12", ":1", ":", ":<1=>", CONTENT);
        expect("~123", ":124", ":523", ":124", KINDS);
    }

    private static void emptyTextForNone() {
        expect("none", ":12", ":13", ":<12=13>", ADDED);
        expect("none", ":12", ":", ":12", 0);
        expect("none", ":", ":12", ":12", 0);
        expect("none", ":12", ":12", ":12", 0);
        RenameMerge m = Scene.laid(50, "", at(":12"), at(":13"));
        m.style(1);
        m.merge();
        CHECK.due("no lines of O behind OLD", Scene.file(m, 3, AT), ":<12|=13>");
    }

    private static void addedOrContent() {
        expect("none", ":1", ":2", ":<1=2>", ADDED);
        expect(":", ":1", ":2", ":<1=2>", CONTENT);
        expect(":3", ":1", ":2", ":<1=2>", CONTENT);
        expect(":3", ":13", ":32", ":132", 0);
        expect(":3", ":13", ":23", ":<1=2>3", CONTENT);
        expect(":34", ":1354", ":2364", ":<1=2>3<5=6>4", CONTENT);
    }
}
