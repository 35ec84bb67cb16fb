/** Promises 12 (line) and 13 (erase). */
public final class LineTest {
    public static void main(String[] args) {
        goodLines();
        wrongLines();
        labelsOnce();
        twentyLines();
        erasing();
        Check.finish();
    }

    private static void goodLines() {
        String[] texts = {
            "A:", "F:", "a", "B:a", "C:abcd A", "abcd -12345,-12345,-12345", "z A,B,C", "a 0", "a -0", "a 00000",
            "a 99999,F,-1", "D:x E,1", "E:abcd -99999,-99999,-99999"};
        OpcodeAtlas atlas = new OpcodeAtlas();
        for (int i = 0; i < texts.length; i++) {
            Check.due("line() of '" + texts[i] + "'", Check.line(atlas, texts[i]), i + 1);
            Check.due("count(1)", atlas.count(1), i + 1);
            Check.due("count(3)", atlas.count(3), 0);
        }
    }

    private static void wrongLines() {
        String[] texts = {
            "", " ", ":", "A", "G:", "@:", "a:", "A:B:", "A::", "A: ", "A: a", " a", "a ", "a  1", "a 1 ", "abcde",
            "abcde 1", "a b", "a 1,", "a ,1", "a ,", "a 1,,2", "a 1, 2", "a 1,2,3,4", "a 1,2,3,", "a -", "a --1",
            "a +1", "a 123456", "a -123456", "a 1-", "a G", "a @", "a -A", "a AB", "a A1", "a 1A", "a A:", "1", "a1",
            "aA", "A:1", "A:-1", "a \u0130", "a\u0000", "a 1\u0000", "\u0141:", "A:\u0161", "AA:", "A:a ", "a /", "a :"};
        OpcodeAtlas atlas = new OpcodeAtlas();
        Check.line(atlas, "nop");
        for (String text : texts) {
            Check.refused("line() of '" + text + "'", IllegalArgumentException.class, () -> Check.line(atlas, text));
            Check.due("count(1) after '" + text + "'", atlas.count(1), 1);
            Check.due("count(3) after '" + text + "'", atlas.count(3), 0);
        }
        Check.due("A: after wrong lines with that label", Check.line(atlas, "A:"), 2);
    }

    private static void labelsOnce() {
        OpcodeAtlas atlas = new OpcodeAtlas();
        for (char label = 'A'; label <= 'F'; label++) {
            Check.line(atlas, label + ":");
        }
        for (char label = 'A'; label <= 'F'; label++) {
            String text = label + ":a";
            Check.refused("line() of '" + text + "'", IllegalArgumentException.class, () -> Check.line(atlas, text));
        }
        Check.due("count(1)", atlas.count(1), 6);
        atlas.erase();
        Check.due("a label after erase()", Check.line(atlas, "A:a"), 1);
    }

    private static void twentyLines() {
        OpcodeAtlas atlas = new OpcodeAtlas();
        Check.line(atlas, "A:");
        for (int i = 2; i <= 20; i++) {
            Check.due("line() number " + i, Check.line(atlas, "a"), i);
        }
        for (int again = 0; again < 3; again++) {
            Check.refused("line 21", IllegalStateException.class, () -> Check.line(atlas, "a"));
            Check.refused("line 21, B:", IllegalStateException.class, () -> Check.line(atlas, "B:"));
            Check.due("count(3) after line 21", atlas.count(3), 0);
            Check.refused("a wrong line 21", IllegalArgumentException.class, () -> Check.line(atlas, "a "));
            Check.refused("line 21, A:", IllegalArgumentException.class, () -> Check.line(atlas, "A:"));
        }
        Check.due("count(1)", atlas.count(1), 20);
    }

    private static void erasing() {
        OpcodeAtlas atlas = Check.ready("a 00000001");
        Check.program(atlas, "a", "a", "A:a");
        Check.type(atlas, "xy");
        Check.due("erase()", atlas.erase(), 3);
        Check.due("erase() again", atlas.erase(), 0);
        Check.due("count(0) after erase()", atlas.count(0), 1);
        Check.due("count(1) after erase()", atlas.count(1), 0);
        Check.due("count(2) after erase()", atlas.count(2), 1);
        Check.due("count(3) after erase()", atlas.count(3), 2);
        Check.due("assemble() of nothing", atlas.assemble(0), 0);
        Check.due("peek(0)", atlas.peek(0), 0);
    }
}
