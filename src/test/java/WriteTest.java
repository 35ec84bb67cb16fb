/** Promises 10 (write) and 11 (written). */
public final class WriteTest {
    public static void main(String[] args) {
        texts();
        longest();
        digits();
        refusals();
        Check.finish();
    }

    private static void expect(OpcodeAtlas atlas, int address, String text) {
        Check.due("write(" + address + ") of " + text, atlas.write(address), text.length());
        Check.due("what was written", Check.writtenText(atlas), text);
        for (int i : new int[] {-1, text.length(), 39, 40, 41, Integer.MIN_VALUE, Integer.MAX_VALUE}) {
            Check.due("written(" + i + ") of " + text, atlas.written(i), 0);
        }
    }

    private static void texts() {
        OpcodeAtlas atlas = Check.ready("nop 00000000", "ld 01xxxyyy", "abcd 001zyyxx", "b 10xxxxxx");
        atlas.operand(3, 0, 2, 2, 0);
        expect(atlas, 0, "nop");
        atlas.poke(1, 0b01011101);
        expect(atlas, 1, "ld 3,5");
        atlas.poke(2, 0b00111001);
        atlas.operand(2, 0, 0, 8, -100);
        atlas.operand(2, 1, 1, 1, 0);
        expect(atlas, 2, "abcd -92,-2,1");
        atlas.poke(3, 0b10111110);
        expect(atlas, 3, "b 0");
        expect(atlas, 0, "nop");
        atlas.poke(63, 255);
        expect(atlas, 63, "?");
        expect(Check.ready(), 0, "?");
    }

    private static void longest() {
        OpcodeAtlas atlas = Check.ready("abcd xxxxxxxxyyyyyyyyzzzzzzzz");
        for (int i = 0; i < 3; i++) {
            atlas.operand(0, i, 1, 8, -100);
            atlas.poke(i, 128);
        }
        expect(atlas, 0, "abcd -1124,-1124,-1124");
        OpcodeAtlas wide = Check.ready("wxyz xxxxxxxxxxxxxxxxyyyyzzzz");
        wide.operand(0, 0, 1, 8, -100);
        wide.operand(0, 1, 1, 8, -100);
        wide.operand(0, 2, 1, 8, -100);
        wide.poke(0, 128);
        wide.poke(2, 0x88);
        expect(wide, 0, "wxyz -262244,-164,-164");
    }

    private static void digits() {
        for (int number : new int[] {0, 1, 9, 10, 11, 99, 100, 101, 999, 1000, 1010, 9999, 10000, 10203, 65535}) {
            OpcodeAtlas atlas = Check.ready("a 00000001xxxxxxxxxxxxxxxx");
            atlas.poke(0, 1);
            atlas.poke(1, number >> 8);
            atlas.poke(2, number);
            atlas.operand(0, 0, 0, 1, 0);
            expect(atlas, 0, "a " + number);
            atlas.operand(0, 0, 0, 8, 100);
            expect(atlas, 0, "a " + (number * 8 + 100));
            atlas.operand(0, 0, 0, 1, -100);
            expect(atlas, 0, "a " + (number - 100));
        }
    }

    private static void refusals() {
        OpcodeAtlas atlas = Check.ready("ab 0000000x");
        atlas.write(0);
        for (int address : new int[] {-1, 64, Integer.MIN_VALUE, Integer.MAX_VALUE}) {
            Check.refused("write(" + address + ")", IndexOutOfBoundsException.class, () -> atlas.write(address));
            Check.due("what was written before", Check.writtenText(atlas), "ab 0");
        }
        Check.form(atlas, "c 11111111");
        Check.refused("unready write(0)", IllegalStateException.class, () -> atlas.write(0));
        Check.refused("unready write(-1)", IllegalStateException.class, () -> atlas.write(-1));
        Check.due("what was written before", Check.writtenText(atlas), "ab 0");
        atlas.poke(0, 1);
        Check.due("what was written is not read anew", Check.writtenText(atlas), "ab 0");
    }
}
