/** Promises 3 (form) and 4 (operand). */
public final class FormTest {
    public static void main(String[] args) {
        goodForms();
        wrongForms();
        sameName();
        twelveForms();
        formMakesUnready();
        refusedFormLeavesNothing();
        operands();
        wrongOperands();
        Check.finish();
    }

    private static void goodForms() {
        String[] texts = {
            "a 00000000", "abcd 111111111111111111111111", "z xxxxxxxxxxxxxxxx", "z yx000000",
            "zz zzzzzzzzzzzzzzzzyyyyyyyx", "x xyzxyzxyzxyzxyzxyzxyzxyz", "b xxxxxxxxxxxxxxxx00000000"};
        OpcodeAtlas atlas = new OpcodeAtlas();
        for (int i = 0; i < texts.length; i++) {
            Check.due("form() of '" + texts[i] + "'", Check.form(atlas, texts[i]), i);
            Check.due("count(0)", atlas.count(0), i + 1);
        }
    }

    private static void wrongForms() {
        String[] texts = {
            "", " ", "a", "a ", " 00000000", "00000000", "abcde 00000000", "A 00000000", "a1 00000000",
            "a00000000", "a  00000000", "a 0000000", "a 000000000", "a 000000000000", "a 00000000000000000000",
            "a 00000000000000000000000000000000", "a 0000000000000000000000000", "a 0000000w", "a 0000000{",
            "a 0000000X", "a 00000002", "a 0000000/", "a 00000000 ", " a 00000000", "a y0000000", "a z0000000",
            "a xz000000", "a yz000000", "a 000 0000", "a xxxxxxxxxxxxxxxxx0000000", "a xyyyyyyyyyyyyyyyyy000000",
            "a xyzzzzzzzzzzzzzzzzz00000", "a 0000000\u0130", "\u0161 00000000", "a\u000000000000", "a 0000000\u0000",
            "a\u012000000000", "abcdabcdabcd 00000000", "a:00000000"};
        for (String text : texts) {
            OpcodeAtlas atlas = Check.ready("a 00000000");
            Check.refused("form() of '" + text + "'", IllegalArgumentException.class, () -> Check.form(atlas, text));
            Check.due("count(0) after '" + text + "'", atlas.count(0), 1);
            Check.due("count(2) after '" + text + "'", atlas.count(2), 1);
            Check.due("count(3) after '" + text + "'", atlas.count(3), 0);
            Check.due("decode() after '" + text + "'", atlas.decode(0), 0);
        }
    }

    private static void sameName() {
        OpcodeAtlas atlas = new OpcodeAtlas();
        Check.due("a with none", Check.form(atlas, "a 00000000"), 0);
        Check.due("a with one", Check.form(atlas, "a 0000001x"), 1);
        Check.due("a with two", Check.form(atlas, "a 000001yx"), 2);
        Check.due("a with three", Check.form(atlas, "a 00001xyz"), 3);
        Check.due("aa with none", Check.form(atlas, "aa 00010000"), 4);
        atlas.test();
        for (String text : new String[] {"a 1111111100000000", "a 1111111x", "a 111111yx", "a 11111zyx", "aa 11111111"}) {
            Check.refused("form() of '" + text + "'", IllegalStateException.class, () -> Check.form(atlas, text));
            Check.due("count(2) after '" + text + "'", atlas.count(2), 1);
            Check.due("count(3) after '" + text + "'", atlas.count(3), 0);
        }
        Check.due("count(0)", atlas.count(0), 5);
    }

    private static void twelveForms() {
        OpcodeAtlas atlas = new OpcodeAtlas();
        for (int i = 0; i < 12; i++) {
            Check.due("form() number " + i, Check.form(atlas, (char) ('a' + i) + " 0000000x"), i);
        }
        for (int again = 0; again < 3; again++) {
            Check.refused("a thirteenth form", IllegalStateException.class, () -> Check.form(atlas, "m 11111111"));
            Check.refused("a wrong thirteenth", IllegalArgumentException.class, () -> Check.form(atlas, "m 1111111"));
        }
        Check.due("count(0)", atlas.count(0), 12);
        Check.due("operand() of the last", atlas.operand(11, 0, 0, 1, 0), 1);
        Check.refused("operand() of a thirteenth", IllegalArgumentException.class, () -> atlas.operand(12, 0, 0, 1, 0));
    }

    private static void formMakesUnready() {
        OpcodeAtlas atlas = Check.ready("a 00000000");
        Check.due("count(2) when ready", atlas.count(2), 1);
        Check.form(atlas, "b 11111111");
        Check.due("count(2) after a new form", atlas.count(2), 0);
        Check.refused("decode(0) after a new form", IllegalStateException.class, () -> atlas.decode(0));
    }

    private static void refusedFormLeavesNothing() {
        OpcodeAtlas atlas = Check.ready("a 0000000x");
        Check.refused("a again", IllegalStateException.class, () -> Check.form(atlas, "a 0000000x"));
        Check.refused("operand() of a refused form", IllegalArgumentException.class, () -> atlas.operand(1, 0, 0, 1, 0));
        Check.due("test() without the refused form", atlas.test(), 0);
        Check.due("decode() without the refused form", atlas.decode(0), 0);
        Check.refused("a wrong last sign", IllegalArgumentException.class, () -> Check.form(atlas, "b 1111111?"));
        Check.due("b", Check.form(atlas, "b 10xxxxxx"), 1);
        Check.due("bits of b", atlas.operand(1, 0, 0, 1, 0), 6);
        Check.due("test() with b", atlas.test(), 0);
        atlas.poke(0, 0b10000011);
        Check.due("decode() of b", atlas.decode(0), 1);
        Check.due("value() of b", atlas.value(0, 0), 3);
        Check.program(atlas, "b 0");
        atlas.assemble(0);
        Check.due("the byte of b", atlas.peek(0), 0b10000000);
    }

    private static void operands() {
        OpcodeAtlas atlas = new OpcodeAtlas();
        Check.form(atlas, "a xxxxxxxxxxxxxxxxyyyyyzz0");
        Check.form(atlas, "b 1111111x0000000000000000");
        Check.due("bits of x", atlas.operand(0, 0, 0, 1, 0), 16);
        Check.due("bits of y", atlas.operand(0, 1, 1, 8, -100), 5);
        Check.due("bits of z", atlas.operand(0, 2, 2, 4, 100), 2);
        Check.due("bits of x of b", atlas.operand(1, 0, 2, 1, 0), 1);
        Check.due("test()", atlas.test(), 0);
        atlas.operand(0, 0, 0, 1, 0);
        Check.due("count(2) after operand()", atlas.count(2), 1);
    }

    private static void wrongOperands() {
        OpcodeAtlas atlas = Check.ready("a 00000xxx", "b 10000000", "c 110xxyyz");
        atlas.operand(0, 0, 1, 2, 3);
        int[][] wrong = {
            {-1, 0, 0, 1, 0}, {3, 0, 0, 1, 0}, {12, 0, 0, 1, 0}, {13, 0, 0, 1, 0},
            {Integer.MAX_VALUE, 0, 0, 1, 0}, {Integer.MIN_VALUE, 0, 0, 1, 0},
            {0, -1, 0, 1, 0}, {0, 1, 0, 1, 0}, {0, 2, 0, 1, 0}, {0, 3, 0, 1, 0}, {1, 0, 0, 1, 0}, {2, 3, 0, 1, 0},
            {0, Integer.MAX_VALUE, 0, 1, 0}, {0, Integer.MIN_VALUE, 0, 1, 0},
            {0, 0, -1, 1, 0}, {0, 0, 3, 1, 0}, {0, 0, Integer.MIN_VALUE, 1, 0},
            {0, 0, 0, 0, 0}, {0, 0, 0, 9, 0}, {0, 0, 0, -1, 0}, {0, 0, 0, Integer.MIN_VALUE, 0},
            {0, 0, 0, 1, -101}, {0, 0, 0, 1, 101}, {0, 0, 0, 1, Integer.MIN_VALUE}, {0, 0, 0, 1, Integer.MAX_VALUE}};
        for (int[] w : wrong) {
            Check.refused("operand" + java.util.Arrays.toString(w), IllegalArgumentException.class,
                () -> atlas.operand(w[0], w[1], w[2], w[3], w[4]));
        }
        atlas.poke(0, 7);
        Check.due("the value after wrong operands", atlas.value(0, 0), -1 * 2 + 3);
    }
}
