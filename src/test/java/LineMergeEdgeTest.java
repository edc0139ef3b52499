/**
 * The boundary cases of LINE MERGE: for each sentence of the document that names one a test of its own, at
 * the boundary and one step to either side of it. Texts are written as Scene writes them.
 */
public final class LineMergeEdgeTest {
    private static final Check CHECK = new Check();
    private static final int AT = 20;

    public static void main(String[] args) {
        matchings();
        gaps();
        written();
        styles();
        CHECK.end();
    }

    /** The result of a merge of three plain files at one path; a conflict is CONTENT, and only with marks. */
    private static String merged(int style, String o, String a, String b) {
        RenameMerge m = Scene.laid(50, AT + ":" + o, AT + ":" + a, AT + ":" + b);
        m.style(style);
        int paths = m.merge();
        String text = Scene.file(m, 3, AT).substring(1);
        CHECK.due("the code of " + text, m.conflict(AT), text.contains("<") ? 1 : 0);
        CHECK.due("the number of paths with " + text, paths, text.contains("<") ? 1 : 0);
        return text;
    }

    private static void expect(String o, String a, String b, String want) {
        CHECK.due("style 0 of " + o + ", " + a + ", " + b, merged(0, o, a, b), want);
    }

    private static void expectInAll(String o, String a, String b, String want) {
        for (int style = 0; style <= 2; style++) {
            CHECK.due("style " + style + " of " + o + ", " + a + ", " + b, merged(style, o, a, b), want);
        }
    }

    private static void matchings() {
        CHECK.sentence("with i and j both growing strictly from pair to pair", LineMergeEdgeTest::growsStrictly);
        CHECK.sentence("of all such lists those with the most pairs", LineMergeEdgeTest::mostPairs);
        CHECK.sentence("of these those whose first numbers i, i', .. come first in dictionary order",
                LineMergeEdgeTest::firstNumbers);
        CHECK.sentence("of these the one whose second numbers j, j', .. come first in dictionary order",
                LineMergeEdgeTest::secondNumbers);
        CHECK.sentence("A line of o that is in the matching of o with a and in that of o with b is an ANCHOR.",
                LineMergeEdgeTest::anchors);
    }

    private static void growsStrictly() {
        expect("11", "1", "113", "1<=13>");
        expect("11", "113", "1", "1<13=>");
        expect("1", "11", "12", "1<1=2>");
        expect("12", "21", "123", "21<=23>");
        expect("12", "123", "21", "21<23=>");
        expectInAll("11", "211", "113", "2113");
    }

    private static void mostPairs() {
        expect("123", "231", "1234", "23<1=4>");
        expect("123", "1234", "231", "23<4=1>");
        expect("1234", "4123", "12345", "4123<=45>");
        expect("1234", "3412", "12345", "3412<=345>");
    }

    private static void firstNumbers() {
        expect("12", "21", "123", "21<=23>");
        expect("123", "132", "1234", "132<=34>");
        expect("11", "1", "311", "31");
        expect("112", "12", "1312", "1<=31>2");
        expect("1213", "13", "12413", "1<=241>3");
    }

    private static void secondNumbers() {
        expectInAll("1", "11", "21", "211");
        expectInAll("1", "21", "11", "211");
        expectInAll("12", "122", "132", "1322");
        expectInAll("12", "132", "122", "1322");
        expectInAll("1", "111", "21", "2111");
    }

    private static void anchors() {
        expectInAll("123", "124", "523", "524");
        expect("12", "132", "4", "<132=4>");
        expect("12", "4", "132", "<4=132>");
        expect("12", "3", "4", "<3=4>");
        expect("12", "13", "14", "1<3=4>");
        expect("12", "32", "42", "<3=4>2");
        expect("12", "13", "42", "<13=42>");
    }

    private static void gaps() {
        String cut = "what lies before the first anchor, between two neighbouring ones, and behind the last";
        CHECK.sentence(cut, LineMergeEdgeTest::beforeTheFirst);
        CHECK.sentence(cut, LineMergeEdgeTest::betweenTwo);
        CHECK.sentence(cut, LineMergeEdgeTest::behindTheLast);
        CHECK.sentence("(all of each text, if there is no anchor)", LineMergeEdgeTest::noAnchor);
        CHECK.sentence("a gap has three parts O, A, B, each of them perhaps empty", LineMergeEdgeTest::emptyParts);
        CHECK.sentence("for each gap what is written for it, and each anchor's line between them",
                LineMergeEdgeTest::writesInOrder);
    }

    private static void beforeTheFirst() {
        expect("12", "32", "42", "<3=4>2");
        expect("2", "32", "42", "<3=4>2");
        expectInAll("12", "32", "124", "324");
        expectInAll("2", "23", "42", "423");
    }

    private static void betweenTwo() {
        expect("132", "142", "152", "1<4=5>2");
        expect("12", "142", "152", "1<4=5>2");
        expectInAll("12", "142", "123", "1423");
        expect("123", "14253", "16273", "1<4=6>2<5=7>3");
    }

    private static void behindTheLast() {
        expect("12", "13", "14", "1<3=4>");
        expect("1", "13", "14", "1<3=4>");
        expectInAll("12", "13", "412", "413");
        expectInAll("1", "13", "41", "413");
    }

    private static void noAnchor() {
        CHECK.due("style 1, all lines of each", merged(1, "12", "34", "56"), "<34|12=56>");
        CHECK.due("style 1, empty O", merged(1, "", "34", "56"), "<34|=56>");
        CHECK.due("style 1, empty A", merged(1, "12", "", "56"), "<|12=56>");
        CHECK.due("style 1, empty B", merged(1, "12", "34", ""), "<34|12=>");
        CHECK.due("style 1, eight lines each", merged(1, "11112222", "33334444", "55556666"),
                "<33334444|11112222=55556666>");
        CHECK.due("style 1, one anchor", merged(1, "12", "32", "52"), "<3|1=5>2");
    }

    /** The gap between the anchors 1 and 2; the lines 8 and 9 beside them make it a line merge in all cases. */
    private static void emptyParts() {
        expectInAll("12", "812", "129", "8129");
        expectInAll("132", "812", "129", "8129");
        expectInAll("12", "8132", "129", "81329");
        expectInAll("12", "812", "1329", "81329");
        expectInAll("12", "8132", "1329", "81329");
        CHECK.due("A empty", merged(1, "132", "812", "1429"), "81<|3=4>29");
        CHECK.due("B empty", merged(1, "132", "8142", "129"), "81<4|3=>29");
        CHECK.due("O empty", merged(1, "12", "8132", "1429"), "81<3|=4>29");
        CHECK.due("none empty", merged(1, "132", "8142", "1529"), "81<4|3=5>29");
        CHECK.due("A empty, style 0", merged(0, "132", "812", "1429"), "81<=4>29");
        CHECK.due("B empty, style 0", merged(0, "132", "8142", "129"), "81<4=>29");
        CHECK.due("A empty, style 2", merged(2, "132", "812", "1429"), "81<|3=4>29");
        CHECK.due("B empty, style 2", merged(2, "132", "8142", "129"), "81<4|3=>29");
        CHECK.due("O empty, style 2", merged(2, "12", "8132", "1429"), "81<3|=4>29");
    }

    private static void writesInOrder() {
        expectInAll("1234567", "81234567", "12345679", "812345679");
        expect("123", "4152637", "8192a3b", "<4=8>1<5=9>2<6=a>3<7=b>");
        expect("1", "213", "1", "213");
        expect("1", "213", "415", "<2=4>1<3=5>");
    }

    private static void written() {
        CHECK.sentence("B, if A = O", LineMergeEdgeTest::takesB);
        CHECK.sentence("else A, if B = O or A = B", LineMergeEdgeTest::takesAWhereBIsO);
        CHECK.sentence("else A, if B = O or A = B", LineMergeEdgeTest::takesAWhereBothAgree);
        CHECK.sentence("else it is in CONFLICT", LineMergeEdgeTest::conflicts);
    }

    private static void takesB() {
        expectInAll("1342", "81342", "1529", "81529");
        expect("1342", "813462", "1529", "81<346=5>29");
        expect("1342", "8132", "1529", "81<3=5>29");
        expect("1342", "81362", "1529", "81<36=5>29");
        expect("1342", "81642", "1529", "81<64=5>29");
    }

    private static void takesAWhereBIsO() {
        expectInAll("1342", "8152", "13429", "81529");
        expect("1342", "8152", "134629", "81<5=346>29");
        expect("1342", "8152", "1329", "81<5=3>29");
        expect("1342", "8152", "13629", "81<5=36>29");
        expect("1342", "8152", "16429", "81<5=64>29");
    }

    private static void takesAWhereBothAgree() {
        expectInAll("132", "81452", "14529", "814529");
        expect("132", "81452", "1429", "81<45=4>29");
        expect("132", "81452", "145629", "81<45=456>29");
        expect("132", "81452", "14629", "81<45=46>29");
        expect("132", "81452", "16529", "81<45=65>29");
        expectInAll("132", "812", "129", "8129");
    }

    /** One gap in conflict is enough, and the other gaps are merged beside it. */
    private static void conflicts() {
        expect("132", "142", "152", "1<4=5>2");
        expect("1234", "1534", "1734", "1<5=7>34");
        expect("1234", "1536", "1734", "1<5=7>36");
        expect("12345", "1a3b5", "1c3d5", "1<a=c>3<b=d>5");
        expectInAll("1234", "1534", "1236", "1536");
    }

    private static void styles() {
        CHECK.sentence("style 0: OPEN, A, MIDDLE, B, CLOSE", LineMergeEdgeTest::style0);
        CHECK.sentence("style 1: OPEN, A, OLD, O, MIDDLE, B, CLOSE", LineMergeEdgeTest::style1);
        CHECK.sentence("style 2: first the longest common beginning of A and B is taken off both",
                LineMergeEdgeTest::style2Beginning);
        CHECK.sentence("then from what is left of them their longest common end", LineMergeEdgeTest::style2End);
        CHECK.sentence("written are the beginning, OPEN, what is left of A, OLD, O (whole), MIDDLE,"
                + " what is left of B, CLOSE, the end.", LineMergeEdgeTest::style2Whole);
    }

    private static void style0() {
        CHECK.due("as it is", merged(0, "3", "45", "67"), "<45=67>");
        CHECK.due("a common beginning stays in both", merged(0, "3", "45", "46"), "<45=46>");
        CHECK.due("a common end stays in both", merged(0, "3", "54", "64"), "<54=64>");
        CHECK.due("an empty A", merged(0, "3", "", "4"), "<=4>");
        CHECK.due("an empty B", merged(0, "3", "4", ""), "<4=>");
    }

    private static void style1() {
        CHECK.due("as it is", merged(1, "3", "45", "67"), "<45|3=67>");
        CHECK.due("a common beginning stays in both", merged(1, "3", "45", "46"), "<45|3=46>");
        CHECK.due("a common end stays in both", merged(1, "3", "54", "64"), "<54|3=64>");
        CHECK.due("an empty A", merged(1, "3", "", "4"), "<|3=4>");
        CHECK.due("an empty B", merged(1, "3", "4", ""), "<4|3=>");
        CHECK.due("an empty O", merged(1, "", "4", "5"), "<4|=5>");
    }

    private static void style2Beginning() {
        CHECK.due("none", merged(2, "3", "45", "67"), "<45|3=67>");
        CHECK.due("one line", merged(2, "3", "45", "46"), "4<5|3=6>");
        CHECK.due("two lines", merged(2, "3", "456", "457"), "45<6|3=7>");
        CHECK.due("all of A", merged(2, "3", "45", "456"), "45<|3=6>");
        CHECK.due("all of B", merged(2, "3", "456", "45"), "45<6|3=>");
        CHECK.due("all but the last of eight", merged(2, "3", "11111112", "11111114"), "1111111<2|3=4>");
        CHECK.due("seven of eight lines", merged(2, "3", "1111111", "11111111"), "1111111<|3=1>");
        CHECK.due("an empty A has none", merged(2, "3", "", "45"), "<|3=45>");
        CHECK.due("an empty B has none", merged(2, "3", "45", ""), "<45|3=>");
        CHECK.due("an equal line behind another one", merged(2, "3", "4567", "6587"), "<456|3=658>7");
    }

    private static void style2End() {
        CHECK.due("one line", merged(2, "3", "54", "64"), "<5|3=6>4");
        CHECK.due("two lines", merged(2, "3", "654", "754"), "<6|3=7>54");
        CHECK.due("all of A", merged(2, "3", "54", "654"), "<|3=6>54");
        CHECK.due("all of B", merged(2, "3", "654", "54"), "<6|3=>54");
        CHECK.due("all but the first of eight", merged(2, "3", "21111111", "41111111"), "<2|3=4>1111111");
        CHECK.due("the beginning has taken it", merged(2, "3", "44", "444"), "44<|3=4>");
        CHECK.due("the beginning has taken it from B", merged(2, "3", "444", "44"), "44<4|3=>");
        CHECK.due("what the beginning has left of A", merged(2, "3", "454", "4"), "4<54|3=>");
        CHECK.due("what the beginning has left of B", merged(2, "3", "4", "454"), "4<|3=54>");
        CHECK.due("one line for each", merged(2, "3", "454", "44"), "4<5|3=>4");
        CHECK.due("one line for each, from B", merged(2, "3", "44", "454"), "4<|3=5>4");
        CHECK.due("beginning and end", merged(2, "3", "4576", "4586"), "45<7|3=8>6");
    }

    /** O is never trimmed, though it has lines of the beginning or of the end. */
    private static void style2Whole() {
        CHECK.due("all parts", merged(2, "39", "4561", "4781"), "4<56|39=78>1");
        CHECK.due("O has the beginning", merged(2, "12", "21", "23"), "2<1|12=3>");
        CHECK.due("O has the end", merged(2, "213", "132", "42"), "<13|213=4>2");
        CHECK.due("O has the anchor's line again", merged(2, "2278", "243", "253"), "2<4|278=5>3");
        CHECK.due("O has a line twice", merged(2, "1122", "1324", "1524"), "1<3|1=5>24");
        CHECK.due("an empty O", merged(2, "1", "124", "134"), "1<2|=3>4");
        CHECK.due("eight lines of O", merged(2, "11223344", "5", "6"), "<5|11223344=6>");
    }
}
