/** The sentences of Terms (lines) and of promises 12 and 13 that name a boundary, a test for each. */
public final class LineBoundaryTest {
    private static final String NONE = "java.lang.IllegalArgumentException";

    public static void main(String[] args) {
        Check.sentence("A PROGRAM has at most 20 LINES", LineBoundaryTest::atMost20);
        Check.sentence("perhaps a LABEL, one letter A .. F", LineBoundaryTest::labelLetters);
        Check.sentence("and a colon", LineBoundaryTest::colon);
        Check.sentence("perhaps (if there is a label) an INSTRUCTION", LineBoundaryTest::perhapsInstruction);
        Check.sentence("a name", LineBoundaryTest::names);
        Check.sentence("if it has operands, a blank", LineBoundaryTest::blank);
        Check.sentence("and up to three", LineBoundaryTest::upToThree);
        Check.sentence("with commas between", LineBoundaryTest::commas);
        Check.sentence("numbers (perhaps - ..)", LineBoundaryTest::minus);
        Check.sentence("numbers (.. one to five digits)", LineBoundaryTest::digits);
        Check.sentence("or labels", LineBoundaryTest::labelOperands);
        Check.sentence("A label stands at most once before a colon", LineBoundaryTest::labelOnce);
        Check.sentence("line(): The text as one more line: how many there are", LineBoundaryTest::howMany);
        Check.sentence("line(): Throws IllegalArgumentException when it is none", LineBoundaryTest::isNone);
        Check.sentence("line(): .. or its label stands before a colon already", LineBoundaryTest::labelAlready);
        Check.sentence("line(): IllegalStateException when there are 20", LineBoundaryTest::thereAre20);
        Check.sentence("erase(): The program has no lines then", LineBoundaryTest::noLinesThen);
        Check.sentence("erase(): How many it had", LineBoundaryTest::howManyItHad);
        Check.finish();
    }

    private static void expect(String text, String want) {
        Check.due("line() of '" + text + "'", Check.answer(() -> Check.line(new OpcodeAtlas(), text)), want);
    }

    private static OpcodeAtlas withLines(int count) {
        OpcodeAtlas atlas = new OpcodeAtlas();
        for (int i = 1; i <= count; i++) {
            Check.due("line " + i, Check.line(atlas, "a"), i);
        }
        return atlas;
    }

    private static void atMost20() {
        OpcodeAtlas atlas = withLines(19);
        Check.due("line 20", Check.line(atlas, "a"), 20);
        Check.refused("line 21", IllegalStateException.class, () -> Check.line(atlas, "a"));
        Check.due("the lines", atlas.count(1), 20);
        Check.form(atlas, "a 00000001");
        atlas.test();
        Check.due("the bytes of 20 lines", atlas.assemble(0), 20);
        Check.due("the last byte", atlas.peek(19), 1);
        Check.due("no byte behind it", atlas.peek(20), 0);
    }

    private static void labelLetters() {
        for (int c = 0; c <= Character.MAX_VALUE; c++) {
            String want = c >= 'A' && c <= 'F' ? "1" : NONE;
            expect((char) c + ":", want);
            if (c < 512) {
                expect((char) c + ":a", want);
                expect((char) c + ":a 1", want);
                expect("a " + (char) c, c >= '0' && c <= '9' ? "1" : want);
                expect("a " + (char) c + "1", c >= '0' && c <= '9' || c == '-' ? "1" : NONE);
                expect((char) c + "a", c >= 'a' && c <= 'z' ? "1" : NONE);
            }
        }
        expect(":", NONE);
        expect(":a", NONE);
        expect("AB:", NONE);
        expect("AA:", NONE);
        expect("A1:", NONE);
        expect("A:B:", NONE);
        expect("A:B:a", NONE);
    }

    private static void colon() {
        for (int c = 0; c <= Character.MAX_VALUE; c++) {
            expect("A" + (char) c, c == ':' ? "1" : NONE);
            if (c < 512) {
                expect("A" + (char) c + "a", c == ':' ? "1" : NONE);
            }
        }
        expect("A", NONE);
        expect("Aa", NONE);
        expect("A::", NONE);
        expect("A::a", NONE);
        expect("A :", NONE);
        expect("A: ", NONE);
        expect("A: a", NONE);
        expect(" A:", NONE);
    }

    private static void perhapsInstruction() {
        expect("", NONE);
        expect("A:", "1");
        expect("a", "1");
        expect("A:a", "1");
        expect(" ", NONE);
        expect("1", NONE);
        expect("-1", NONE);
        expect("A:1", NONE);
        expect("A: 1", NONE);
        expect(" 1", NONE);
    }

    private static void names() {
        expect("abcd", "1");
        expect("abcde", NONE);
        expect("A:abcd", "1");
        expect("A:abcde", NONE);
        expect("abcd 1", "1");
        expect("abcde 1", NONE);
        expect("A:abcde 1", NONE);
        for (int c = 0; c < 512; c++) {
            String want = c >= 'a' && c <= 'z' ? "1" : NONE;
            expect("" + (char) c, want);
            expect("A:" + (char) c, want);
            expect("a" + (char) c, want);
            expect("abc" + (char) c, want);
            expect("abcd" + (char) c, NONE);
        }
    }

    private static void blank() {
        expect("a 1", "1");
        expect("a1", NONE);
        expect("a  1", NONE);
        expect("a ", NONE);
        expect("A:a ", NONE);
        expect(" a", NONE);
        expect("a 1 ", NONE);
        expect("aA", NONE);
        expect("a-1", NONE);
        for (int c = 0; c <= Character.MAX_VALUE; c++) {
            expect("a" + (char) c + "1", c == ' ' ? "1" : NONE);
        }
    }

    private static void upToThree() {
        expect("a", "1");
        expect("a 1", "1");
        expect("a 1,2", "1");
        expect("a 1,2,3", "1");
        expect("a 1,2,3,", NONE);
        expect("a 1,2,3,4", NONE);
        expect("a A,B,C", "1");
        expect("a A,B,C,D", NONE);
        expect("a A,B,C,", NONE);
        expect("F:abcd -12345,-12345,-12345", "1");
        expect("F:abcd -12345,-12345,-12345,1", NONE);
    }

    private static void commas() {
        expect("a 1,", NONE);
        expect("a ,", NONE);
        expect("a ,1", NONE);
        expect("a 1,,2", NONE);
        expect("a 1,2,", NONE);
        expect("a A,", NONE);
        expect("a 1, 2", NONE);
        expect("a 1 ,2", NONE);
        expect("a AB", NONE);
        expect("a A1", NONE);
        expect("a 1A", NONE);
        for (int c = 0; c < 512; c++) {
            expect("a A" + (char) c + "B", c == ',' ? "1" : NONE);
            expect("a 12345" + (char) c + "6", c == ',' ? "1" : NONE);
        }
    }

    private static void minus() {
        expect("a -1", "1");
        expect("a -0", "1");
        expect("a -", NONE);
        expect("a -,1", NONE);
        expect("a 1,-", NONE);
        expect("a --1", NONE);
        expect("a 1-", NONE);
        expect("a 1-1", NONE);
        expect("a - 1", NONE);
        expect("a -A", NONE);
        expect("a A-", NONE);
        expect("a +1", NONE);
        expect("a -1,-2,-3", "1");
    }

    private static void digits() {
        for (int count = 0; count <= 20; count++) {
            String want = count >= 1 && count <= 5 ? "1" : NONE;
            expect("a " + "9".repeat(count), want);
            expect("a " + "0".repeat(count), want);
            expect("a -" + "9".repeat(count), want);
            expect("a 1," + "0".repeat(count), want);
            expect("a 1,2,-" + "1".repeat(count), want);
            expect("a " + "9".repeat(count) + ",1", want);
        }
        for (int c = 0; c < 512; c++) {
            boolean digit = c >= '0' && c <= '9';
            expect("a -" + (char) c, digit ? "1" : NONE);
            expect("a 1" + (char) c, digit ? "1" : NONE);
            expect("a 1234" + (char) c, digit ? "1" : NONE);
            expect("a 12345" + (char) c, NONE);
        }
    }

    private static void labelOperands() {
        for (char label = 'A'; label <= 'F'; label++) {
            expect("a " + label, "1");
            expect("a 1," + label, "1");
            expect("a 1,2," + label, "1");
            expect(label + ":a " + label, "1");
        }
        expect("a @", NONE);
        expect("a G", NONE);
        expect("a a", NONE);
        expect("a 1,G", NONE);
        expect("a A:", NONE);
    }

    private static void labelOnce() {
        for (char label = 'A'; label <= 'F'; label++) {
            OpcodeAtlas atlas = new OpcodeAtlas();
            String text = label + ":";
            Check.due("a label in operands alone", Check.line(atlas, "a " + label + "," + label + "," + label), 1);
            Check.due(text, Check.line(atlas, text), 2);
            Check.due("the label in operands", Check.line(atlas, "a " + label), 3);
            Check.refused(text + " again", IllegalArgumentException.class, () -> Check.line(atlas, text));
            Check.refused(text + "a", IllegalArgumentException.class, () -> Check.line(atlas, text + "a"));
            Check.due("the lines", atlas.count(1), 3);
        }
    }

    private static void howMany() {
        OpcodeAtlas atlas = new OpcodeAtlas();
        for (int i = 0; i < 20; i++) {
            Check.due("line " + i, Check.line(atlas, i < 6 ? (char) ('A' + i) + ":" : "a 1"), i + 1);
            Check.due("the lines", atlas.count(1), i + 1);
        }
    }

    private static void isNone() {
        for (String text : new String[] {"", " ", "A", "?", "a ", "abcde", "a 00000000", "a xxxxxxxx"}) {
            expect(text, NONE);
            OpcodeAtlas atlas = withLines(1);
            Check.refused("line() of '" + text + "'", IllegalArgumentException.class, () -> Check.line(atlas, text));
            Check.due("the lines", atlas.count(1), 1);
        }
        // A label of a text that is no line stands before no colon.
        OpcodeAtlas atlas = new OpcodeAtlas();
        Check.refused("A:a 1,", IllegalArgumentException.class, () -> Check.line(atlas, "A:a 1,"));
        Check.due("A: after it", Check.line(atlas, "A:"), 1);
    }

    private static void labelAlready() {
        OpcodeAtlas atlas = new OpcodeAtlas();
        Check.line(atlas, "A:");
        for (int i = 2; i <= 19; i++) {
            Check.line(atlas, "a A");
        }
        Check.line(atlas, "F:a");
        Check.refused("the first line's label", IllegalArgumentException.class, () -> Check.line(atlas, "A:b"));
        Check.refused("the last line's label", IllegalArgumentException.class, () -> Check.line(atlas, "F:"));
        Check.refused("another label, with 20 lines", IllegalStateException.class, () -> Check.line(atlas, "B:"));
        OpcodeAtlas six = new OpcodeAtlas();
        for (char label = 'A'; label <= 'F'; label++) {
            Check.due(label + ":", Check.line(six, label + ":"), label - 'A' + 1);
        }
        for (char label = 'A'; label <= 'F'; label++) {
            String text = label + ":";
            Check.refused(text + " again", IllegalArgumentException.class, () -> Check.line(six, text));
        }
        Check.due("a line without a label", Check.line(six, "a"), 7);
    }

    private static void thereAre20() {
        OpcodeAtlas atlas = withLines(20);
        for (String text : new String[] {"a", "A:", "B:a", "abcd 1,2,3"}) {
            Check.refused("line() of '" + text + "'", IllegalStateException.class, () -> Check.line(atlas, text));
            Check.due("the lines", atlas.count(1), 20);
        }
        // Of two exceptions that are both due, the one that the promise lists first.
        Check.refused("no line, with 20", IllegalArgumentException.class, atlas::line);
        atlas.erase();
        Check.due("a label that was refused with 20", Check.line(atlas, "A:"), 1);
    }

    private static void noLinesThen() {
        OpcodeAtlas atlas = Check.ready("a 00000001");
        Check.program(atlas, "A:a", "F:a");
        atlas.erase();
        Check.due("the lines", atlas.count(1), 0);
        Check.due("assemble(0)", atlas.assemble(0), 0);
        Check.due("the first byte", atlas.peek(0), 0);
        Check.due("the first label", Check.line(atlas, "A:"), 1);
        Check.due("the other label", Check.line(atlas, "F:"), 2);
        OpcodeAtlas full = withLines(20);
        full.erase();
        for (int i = 1; i <= 20; i++) {
            Check.due("line " + i + " after erase()", Check.line(full, "b 1"), i);
        }
        Check.refused("line 21", IllegalStateException.class, () -> Check.line(full, "b 1"));
    }

    private static void howManyItHad() {
        for (int count = 0; count <= 20; count++) {
            OpcodeAtlas atlas = withLines(count);
            Check.due("erase() of " + count, atlas.erase(), count);
            Check.due("erase() again", atlas.erase(), 0);
        }
        OpcodeAtlas full = withLines(20);
        Check.refused("line 21", IllegalStateException.class, () -> Check.line(full, "a"));
        Check.due("erase() after a line that was refused", full.erase(), 20);
    }
}
