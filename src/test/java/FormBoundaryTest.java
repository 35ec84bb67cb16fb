/** The sentences of Terms (forms) and of promises 3 and 4 that name a boundary, a test for each. */
public final class FormBoundaryTest {
    private static final String NONE = "java.lang.IllegalArgumentException";
    private static final String TOO_LATE = "java.lang.IllegalStateException";
    private static final int[] FAR = {Integer.MIN_VALUE, Integer.MIN_VALUE + 1, -256, 256, Integer.MAX_VALUE};

    public static void main(String[] args) {
        Check.sentence("A FORM, of which there are at most twelve (numbers 0, 1, ..)", FormBoundaryTest::atMostTwelve);
        Check.sentence("a NAME (1 to 4 letters ..)", FormBoundaryTest::lengthOfName);
        Check.sentence("a NAME (.. letters a .. z)", FormBoundaryTest::lettersOfName);
        Check.sentence("a blank", FormBoundaryTest::oneBlank);
        Check.sentence("8, 16 or 24 SIGNS", FormBoundaryTest::numberOfSigns);
        Check.sentence("SIGNS out of 0, 1, x, y, z", FormBoundaryTest::signs);
        Check.sentence("Sign k is bit 7 - k mod 8 of byte k / 8", FormBoundaryTest::placeOfSign);
        Check.sentence("y only when there is an x", FormBoundaryTest::yNeedsX);
        Check.sentence("z only when there is a y", FormBoundaryTest::zNeedsY);
        Check.sentence("each of at most 16 bits", FormBoundaryTest::atMost16Bits);
        Check.sentence("No two forms have the same name and as many operands", FormBoundaryTest::sameName);
        Check.sentence("form(): Throws IllegalArgumentException when it tells none", FormBoundaryTest::tellsNone);
        Check.sentence("form(): IllegalStateException when there are twelve", FormBoundaryTest::thereAreTwelve);
        Check.sentence("An operand (0 .. 2) of a form gets kind, scale and offset.", FormBoundaryTest::operandGets);
        Check.sentence("How many bits it has.", FormBoundaryTest::howManyBits);
        Check.sentence("when there is no such form", FormBoundaryTest::noSuchForm);
        Check.sentence("when there is no such operand", FormBoundaryTest::noSuchOperand);
        Check.sentence("a KIND (0 PLAIN, 1 SIGNED, 2 RELATIVE)", FormBoundaryTest::kinds);
        Check.sentence("a SCALE 1 .. 8", FormBoundaryTest::scales);
        Check.sentence("an OFFSET -100 .. 100", FormBoundaryTest::offsets);
        Check.sentence("0 at first; 1 at first; 0 at first", FormBoundaryTest::atFirst);
        Check.finish();
    }

    private static String told(String text) {
        return Check.answer(() -> Check.form(new OpcodeAtlas(), text));
    }

    private static void expect(String text, String want) {
        Check.due("form() of '" + text + "'", told(text), want);
    }

    private static OpcodeAtlas withForms(int count) {
        OpcodeAtlas atlas = new OpcodeAtlas();
        for (int i = 0; i < count; i++) {
            Check.due("form " + i, Check.form(atlas, (char) ('a' + i) + " 0000000x"), i);
        }
        return atlas;
    }

    private static void atMostTwelve() {
        OpcodeAtlas atlas = withForms(11);
        Check.due("the twelfth form", Check.form(atlas, "l 0000000x"), 11);
        Check.refused("the thirteenth form", IllegalStateException.class, () -> Check.form(atlas, "m 0000000x"));
        Check.due("the forms", atlas.count(0), 12);
        Check.due("the twelfth form's operand", atlas.operand(11, 0, 0, 1, 0), 1);
    }

    private static void lengthOfName() {
        expect(" 00000000", NONE);
        expect("00000000", NONE);
        expect("a 00000000", "0");
        expect("ab 00000000", "0");
        expect("abc 00000000", "0");
        expect("abcd 00000000", "0");
        expect("abcde 00000000", NONE);
        expect("abcdefgh 00000000", NONE);
        expect("abcde 000000000000000000000000", NONE);
    }

    private static void lettersOfName() {
        for (int c = 0; c <= Character.MAX_VALUE; c++) {
            String want = c >= 'a' && c <= 'z' ? "0" : NONE;
            expect((char) c + " 00000000", want);
            if (c < 512) {
                expect("a" + (char) c + " 00000000", want);
                expect("abc" + (char) c + " 00000000", want);
            }
        }
    }

    private static void oneBlank() {
        expect("a00000000", NONE);
        expect("a  00000000", NONE);
        expect("a  0000000", NONE);
        expect(" a 00000000", NONE);
        expect("a 00000000 ", NONE);
        expect("a 0000000 ", NONE);
        expect("a 0000 0000", NONE);
        for (int c = 0; c <= Character.MAX_VALUE; c++) {
            expect("a" + (char) c + "00000000", c == ' ' ? "0" : NONE);
        }
    }

    private static void numberOfSigns() {
        for (int count = 0; count <= 38; count++) {
            String want = count == 8 || count == 16 || count == 24 ? "0" : NONE;
            expect("a " + "0".repeat(count), want);
            expect("a " + "01".repeat(20).substring(0, count), want);
            if (count <= 35) {
                expect("abcd " + "1".repeat(count), want);
            }
        }
        // The text ends after 40 characters: those behind are not there, so these are 38 signs.
        expect("a " + "0".repeat(48), NONE);
    }

    private static void signs() {
        for (int c = 0; c <= Character.MAX_VALUE; c++) {
            String want = c == '0' || c == '1' || c == 'x' || c == 'y' || c == 'z' ? "0" : NONE;
            expect("a xy00000" + (char) c, want);
            if (c < 512) {
                expect("a " + (char) c + "xy00000", want);
                expect("a 00000000xy00000" + (char) c, want);
                expect("a 00000000xy00000000000000".substring(0, 25) + (char) c, want);
            }
        }
    }

    private static void placeOfSign() {
        for (int size = 8; size <= 24; size += 8) {
            for (int k = 0; k < size; k++) {
                String signs = "0".repeat(k) + "1" + "0".repeat(size - 1 - k);
                OpcodeAtlas atlas = Check.ready("a " + signs);
                Check.due("nothing at 0 for " + signs, atlas.decode(0), -1);
                atlas.poke(k / 8, 1 << 7 - k % 8);
                Check.due("decode(0) of " + signs, atlas.decode(0), 0);
                Check.line(atlas, "a");
                atlas.assemble(10);
                for (int i = 0; i < 3; i++) {
                    Check.due("byte " + i + " of " + signs, atlas.peek(10 + i), i == k / 8 ? 1 << 7 - k % 8 : 0);
                }
            }
        }
    }

    private static void yNeedsX() {
        expect("a 000000yx", "0");
        expect("a 000000xy", "0");
        expect("a 0000000y", NONE);
        expect("a yyyyyyyy", NONE);
        expect("a 00000yyz", NONE);
        expect("a 00000000000000000000000y", NONE);
        expect("a y00000000000000x", "0");
    }

    private static void zNeedsY() {
        expect("a 00000zyx", "0");
        expect("a 00000xyz", "0");
        expect("a 0000000z", NONE);
        expect("a 000000xz", NONE);
        expect("a 000000yz", NONE);
        expect("a zzzzzzzx", NONE);
        expect("a z0000000000000000000yx00", "0");
    }

    private static void atMost16Bits() {
        expect("a " + "x".repeat(16), "0");
        expect("a " + "x".repeat(16) + "00000000", "0");
        expect("a " + "x".repeat(17) + "0000000", NONE);
        expect("a 0000000" + "x".repeat(17), NONE);
        expect("a " + "x".repeat(24), NONE);
        expect("a x" + "y".repeat(16) + "0000000", "0");
        expect("a x" + "y".repeat(17) + "000000", NONE);
        expect("a x" + "y".repeat(23), NONE);
        expect("a xy" + "z".repeat(16) + "000000", "0");
        expect("a xy" + "z".repeat(17) + "00000", NONE);
        expect("a xy" + "z".repeat(22), NONE);
        expect("a xxxxxxxx0xxxxxxxxx000000", NONE);
        expect("a xxxxxxxx0xxxxxxxx0000000", "0");
    }

    private static void sameName() {
        String[] operands = {"00000000", "0000000x", "000000xy", "00000xyz"};
        String[] others = {"1111111111111111", "1111111111111x11", "1yx11111", "zzzzyyyyxxxxxxxxxxxxxxxx"};
        for (int first = 0; first < 4; first++) {
            for (int second = 0; second < 4; second++) {
                OpcodeAtlas atlas = new OpcodeAtlas();
                Check.form(atlas, "a " + operands[first]);
                String text = "a " + others[second];
                Check.due("form() of '" + text + "' after '" + operands[first] + "'",
                    Check.answer(() -> Check.form(atlas, text)), first == second ? TOO_LATE : "1");
                Check.due("the forms", atlas.count(0), first == second ? 1 : 2);
            }
        }
        OpcodeAtlas atlas = new OpcodeAtlas();
        String[] names = {"abcd", "abc", "ab", "a", "bcd", "b", "abce", "bbcd", "aaaa", "aaa", "aa", "z"};
        for (int i = 0; i < names.length; i++) {
            Check.due("the name " + names[i], Check.form(atlas, names[i] + " 00000000"), i);
        }
        OpcodeAtlas last = withForms(11);
        Check.refused("the first name again", IllegalStateException.class, () -> Check.form(last, "a 1111111x"));
        Check.refused("the last name again", IllegalStateException.class, () -> Check.form(last, "k 1111111x"));
        Check.due("another name", Check.form(last, "l 1111111x"), 11);
    }

    private static void tellsNone() {
        for (String text : new String[] {"", " ", "a", "a ", "A:", "a 1", "abcd", "a 0000000", "?"}) {
            expect(text, NONE);
        }
        OpcodeAtlas atlas = Check.ready("a 00000000");
        Check.refused("form() of nothing, with a form", IllegalArgumentException.class, atlas::form);
        Check.due("the forms", atlas.count(0), 1);
        Check.due("still ready", atlas.count(2), 1);
    }

    private static void thereAreTwelve() {
        OpcodeAtlas atlas = withForms(12);
        atlas.test();
        for (String text : new String[] {"m 11111111", "a 11111111", "a 1111111x", "m xxxxxxxxxxxxxxxxyyyyyyyy"}) {
            Check.refused("form() of '" + text + "'", IllegalStateException.class, () -> Check.form(atlas, text));
            Check.due("the forms", atlas.count(0), 12);
        }
        // Of two exceptions that are both due, the one that the promise lists first.
        Check.refused("a text that tells none, with twelve", IllegalArgumentException.class, atlas::form);
    }

    private static void operandGets() {
        OpcodeAtlas atlas = Check.ready("a 00000xyz", "b 00001xyz");
        atlas.poke(0, 7);
        atlas.poke(1, 8 + 7);
        for (int operand = 0; operand < 3; operand++) {
            Check.due("bits", atlas.operand(1, operand, 1, operand + 2, 10 * operand), 1);
        }
        for (int operand = 0; operand < 3; operand++) {
            Check.due("operand " + operand + " of a", atlas.value(0, operand), 1);
            Check.due("operand " + operand + " of b", atlas.value(1, operand), -(operand + 2) + 10 * operand);
        }
    }

    private static void howManyBits() {
        for (int bits = 1; bits <= 16; bits++) {
            OpcodeAtlas atlas = new OpcodeAtlas();
            Check.form(atlas, "a " + "x".repeat(bits) + "0".repeat(24 - bits));
            Check.form(atlas, "b x" + "y".repeat(bits) + "0".repeat(23 - bits));
            Check.form(atlas, "c xy" + "z".repeat(bits) + "0".repeat(22 - bits));
            for (int i = 0; i < 3; i++) {
                Check.due("bits of operand " + i, atlas.operand(i, i, 2, 8, 100), bits);
            }
        }
    }

    private static String gets(int form, int operand, int kind, int scale, int offset) {
        OpcodeAtlas atlas = new OpcodeAtlas();
        Check.form(atlas, "a 00000000");
        Check.form(atlas, "b 000000xx");
        Check.form(atlas, "c 0000xxyy");
        Check.form(atlas, "d 00xxyyzz");
        return Check.answer(() -> atlas.operand(form, operand, kind, scale, offset));
    }

    private static void noSuchForm() {
        Check.due("form -1", gets(-1, 0, 0, 1, 0), NONE);
        Check.due("form 1", gets(1, 0, 0, 1, 0), "2");
        Check.due("form 3", gets(3, 0, 0, 1, 0), "2");
        Check.due("form 4", gets(4, 0, 0, 1, 0), NONE);
        Check.due("form 12", gets(12, 0, 0, 1, 0), NONE);
        Check.due("form 13", gets(13, 0, 0, 1, 0), NONE);
        for (int form : FAR) {
            Check.due("form " + form, gets(form, 0, 0, 1, 0), NONE);
        }
        OpcodeAtlas refused = withForms(1);
        Check.refused("a form that is refused", IllegalStateException.class, () -> Check.form(refused, "a 1111111x"));
        Check.refused("its number", IllegalArgumentException.class, () -> refused.operand(1, 0, 0, 1, 0));
        OpcodeAtlas full = withForms(12);
        Check.refused("a thirteenth form", IllegalStateException.class, () -> Check.form(full, "m 1111111x"));
        Check.due("form 11 of twelve", full.operand(11, 0, 0, 1, 0), 1);
        Check.refused("form 12 of twelve", IllegalArgumentException.class, () -> full.operand(12, 0, 0, 1, 0));
        Check.refused("form 13 of twelve", IllegalArgumentException.class, () -> full.operand(13, 0, 0, 1, 0));
    }

    private static void noSuchOperand() {
        for (int form = 0; form < 4; form++) {
            for (int operand = -2; operand <= 4; operand++) {
                String want = operand >= 0 && operand < form ? "2" : NONE;
                Check.due("operand " + operand + " of form " + form, gets(form, operand, 0, 1, 0), want);
            }
            for (int operand : FAR) {
                Check.due("operand " + operand + " of form " + form, gets(form, operand, 0, 1, 0), NONE);
            }
        }
    }

    private static void kinds() {
        for (int kind = -2; kind <= 4; kind++) {
            Check.due("kind " + kind, gets(1, 0, kind, 1, 0), kind >= 0 && kind <= 2 ? "2" : NONE);
        }
        for (int kind : FAR) {
            Check.due("kind " + kind, gets(1, 0, kind, 1, 0), NONE);
        }
        int[] values = {3, -1, -1 + 5};
        for (int kind = 0; kind <= 2; kind++) {
            OpcodeAtlas atlas = Check.ready("a 000000xx");
            atlas.operand(0, 0, kind, 1, 0);
            atlas.poke(4, 3);
            Check.due("the value of kind " + kind, atlas.value(4, 0), values[kind]);
        }
    }

    private static void scales() {
        for (int scale = -9; scale <= 17; scale++) {
            Check.due("scale " + scale, gets(1, 0, 0, scale, 0), scale >= 1 && scale <= 8 ? "2" : NONE);
        }
        for (int scale : FAR) {
            Check.due("scale " + scale, gets(1, 0, 0, scale, 0), NONE);
        }
        for (int scale = 1; scale <= 8; scale++) {
            OpcodeAtlas atlas = Check.ready("a 000000xx");
            atlas.operand(0, 0, 0, scale, 0);
            atlas.poke(0, 3);
            Check.due("the value of scale " + scale, atlas.value(0, 0), 3 * scale);
        }
    }

    private static void offsets() {
        for (int offset = -202; offset <= 202; offset++) {
            String want = offset >= -100 && offset <= 100 ? "2" : NONE;
            Check.due("offset " + offset, gets(1, 0, 0, 1, offset), want);
        }
        for (int offset : FAR) {
            Check.due("offset " + offset, gets(1, 0, 0, 1, offset), NONE);
        }
        for (int offset : new int[] {-100, -99, -1, 0, 1, 99, 100}) {
            OpcodeAtlas atlas = Check.ready("a 000000xx");
            atlas.operand(0, 0, 0, 1, offset);
            atlas.poke(0, 3);
            Check.due("the value of offset " + offset, atlas.value(0, 0), 3 + offset);
        }
    }

    private static void atFirst() {
        OpcodeAtlas atlas = new OpcodeAtlas();
        for (int form = 0; form < 12; form++) {
            String code = Integer.toBinaryString(16 + form).substring(1);
            String text = (char) ('a' + form) + " " + code + "xyyz";
            Check.form(atlas, text);
            Check.refused("the same form again", IllegalStateException.class, () -> Check.form(atlas, text));
            if (form > 0) {
                atlas.operand(form - 1, 1, 2, 8, 100);
            }
        }
        atlas.test();
        atlas.poke(0, 11 * 16 + 15);
        Check.due("x at first", atlas.value(0, 0), 1);
        Check.due("y at first: not signed, scale 1, offset 0", atlas.value(0, 1), 3);
        Check.due("z at first", atlas.value(0, 2), 1);
    }
}
