/** The sentences of Terms (written) and of promises 10 and 11 that name a boundary, a test for each. */
public final class WriteBoundaryTest {
    private static final int[] NO_ADDRESSES =
        {-1, 64, -2, 65, -64, 128, 256, Integer.MIN_VALUE, Integer.MIN_VALUE + 63, Integer.MAX_VALUE};

    public static void main(String[] args) {
        Check.sentence("WRITTEN it is its name", WriteBoundaryTest::names);
        Check.sentence("and behind a blank the values of its operands", WriteBoundaryTest::blankBeforeValues);
        Check.sentence("with commas between", WriteBoundaryTest::commasBetween);
        Check.sentence("in decimal", WriteBoundaryTest::decimal);
        Check.sentence("(a - before those below 0)", WriteBoundaryTest::minus);
        Check.sentence("a ? if no form matches", WriteBoundaryTest::noneMatches);
        Check.sentence("how many characters", WriteBoundaryTest::howMany);
        Check.sentence("write(): Throws as decode(), not ready", WriteBoundaryTest::notReady);
        Check.sentence("write(): Throws as decode(), no such address", WriteBoundaryTest::nowhere);
        Check.sentence("Character i of what was written last", WriteBoundaryTest::writtenLast);
        Check.sentence("0 when there is none", WriteBoundaryTest::noCharacter);
        Check.finish();
    }

    private static void expect(OpcodeAtlas atlas, int address, String text) {
        Check.due("write(" + address + ") of " + text, atlas.write(address), text.length());
        Check.due("what was written", Check.writtenText(atlas), text);
    }

    private static void names() {
        for (String name : new String[] {"a", "z", "az", "zzz", "abcd", "zzzz", "aaaa"}) {
            expect(Check.ready(name + " 00000000"), 0, name);
            expect(Check.ready(name + " 0000000000000000"), 62, name);
            expect(Check.ready(name + " 00000000000000000000000x"), 61, name + " 0");
        }
    }

    private static void blankBeforeValues() {
        expect(Check.ready("ab 00000000"), 5, "ab");
        expect(Check.ready("ab 0000000x"), 5, "ab 0");
        expect(Check.ready("ab 000000xy"), 5, "ab 0,0");
    }

    private static void commasBetween() {
        OpcodeAtlas atlas = Check.ready("a 00zzyyxx", "b 01000yyx", "c 1000000x", "d 11000000");
        atlas.poke(0, 0b00011011);
        expect(atlas, 0, "a 3,2,1");
        atlas.poke(0, 0b01000101);
        expect(atlas, 0, "b 1,2");
        atlas.poke(0, 0b10000001);
        expect(atlas, 0, "c 1");
        atlas.poke(0, 0b11000000);
        expect(atlas, 0, "d");
    }

    private static OpcodeAtlas wide(int field, int kind, int scale, int offset) {
        OpcodeAtlas atlas = Check.ready("a 00000001xxxxxxxxxxxxxxxx");
        atlas.operand(0, 0, kind, scale, offset);
        atlas.poke(0, 1);
        atlas.poke(1, field >> 8);
        atlas.poke(2, field);
        return atlas;
    }

    private static void decimal() {
        for (int unit = 1; unit <= 10000; unit *= 10) {
            for (int number : new int[] {unit - 1, unit, unit + 1, 5 * unit, Math.min(9 * unit, 65535)}) {
                expect(wide(number, 0, 1, 0), 0, "a " + number);
            }
        }
        expect(wide(0, 0, 8, 0), 0, "a 0");
        expect(wide(12500, 0, 8, 0), 0, "a 100000");
        expect(wide(12500, 0, 8, -1), 0, "a 99999");
        expect(wide(65535, 0, 1, 0), 0, "a 65535");
        expect(wide(65535, 0, 8, 100), 0, "a 524380");
    }

    private static void minus() {
        expect(wide(0, 0, 1, -1), 0, "a -1");
        expect(wide(0, 0, 1, 0), 0, "a 0");
        expect(wide(1, 0, 1, -1), 0, "a 0");
        expect(wide(65535, 1, 1, 1), 0, "a 0");
        expect(wide(0, 0, 1, -9), 0, "a -9");
        expect(wide(0, 0, 1, -10), 0, "a -10");
        expect(wide(0, 0, 1, -100), 0, "a -100");
        expect(wide(32768, 1, 1, 0), 0, "a -32768");
        expect(wide(32768, 1, 8, -100), 0, "a -262244");
        expect(wide(32768, 2, 8, -100), 0, "a -262241");
        OpcodeAtlas atlas = Check.ready("b 1111xxyz");
        for (int operand = 0; operand < 3; operand++) {
            atlas.operand(0, operand, 1, 1, 0);
        }
        atlas.poke(0, 255);
        expect(atlas, 0, "b -1,-1,-1");
        atlas.poke(0, 0xf0);
        expect(atlas, 0, "b 0,0,0");
    }

    private static void noneMatches() {
        expect(Check.ready(), 0, "?");
        expect(Check.ready(), 63, "?");
        OpcodeAtlas atlas = Check.ready("abcd 00000000xxxxxxxx");
        expect(atlas, 62, "abcd 0");
        expect(atlas, 63, "?");
        atlas.poke(62, 1);
        expect(atlas, 62, "?");
    }

    private static void howMany() {
        OpcodeAtlas atlas = Check.ready("abcd xxxxxxxxyyyyyyyyzzzzzzzz");
        Check.due("the shortest with three", atlas.write(0), 10);
        for (int i = 0; i < 3; i++) {
            atlas.operand(0, i, 1, 8, -100);
            atlas.poke(i, 128);
        }
        Check.due("the longest", atlas.write(0), "abcd -1124,-1124,-1124".length());
        Check.due("its last character", atlas.written(21), '4');
        Check.due("none behind it", atlas.written(22), 0);
        Check.due("the shortest", Check.ready("a 00000000").write(0), 1);
    }

    private static void notReady() {
        OpcodeAtlas fresh = new OpcodeAtlas();
        OpcodeAtlas atlas = Check.ready("a 00000000");
        atlas.write(0);
        Check.form(atlas, "b 11111111");
        for (int address : new int[] {0, 63, -1, 64, Integer.MIN_VALUE, Integer.MAX_VALUE}) {
            Check.refused("write() of a new object", IllegalStateException.class, () -> fresh.write(address));
            Check.refused("write() after a new form", IllegalStateException.class, () -> atlas.write(address));
        }
        Check.due("what was written before", Check.writtenText(atlas), "a");
    }

    private static void nowhere() {
        OpcodeAtlas atlas = Check.ready("a 00000000");
        atlas.write(0);
        for (int address : NO_ADDRESSES) {
            Check.refused("write(" + address + ")", IndexOutOfBoundsException.class, () -> atlas.write(address));
            Check.due("what was written before", Check.writtenText(atlas), "a");
        }
        atlas.poke(0, 1);
        expect(atlas, 0, "?");
        expect(atlas, 63, "a");
    }

    private static void writtenLast() {
        OpcodeAtlas atlas = Check.ready("abcd 0000000xxxxxxxxxyyyyyyyy", "b 11111111");
        expect(atlas, 0, "abcd 0,0");
        atlas.poke(10, 255);
        expect(atlas, 10, "b");
        for (int i = 1; i < 12; i++) {
            Check.due("what the longer text left at " + i, atlas.written(i), 0);
        }
        atlas.poke(10, 0);
        atlas.operand(0, 0, 0, 1, 5);
        Check.due("what was written stays as it was", Check.writtenText(atlas), "b");
        Check.due("read a second time", Check.writtenText(atlas), "b");
        expect(atlas, 10, "abcd 5,0");
    }

    private static void noCharacter() {
        OpcodeAtlas fresh = new OpcodeAtlas();
        OpcodeAtlas atlas = Check.ready("ab 0000000x");
        for (int i : new int[] {-1, 0, 1, 39, 40, 41, 63, 64, Integer.MIN_VALUE, Integer.MAX_VALUE}) {
            Check.due("written(" + i + ") of a new object", fresh.written(i), 0);
        }
        atlas.write(0);
        for (int i : new int[] {-1, -4, 4, 5, 39, 40, 41, 63, 64, Integer.MIN_VALUE, Integer.MAX_VALUE}) {
            Check.due("written(" + i + ") of four characters", atlas.written(i), 0);
        }
        Check.due("written(0)", atlas.written(0), 'a');
        Check.due("written(3)", atlas.written(3), '0');
    }
}
