/** Promises 8 (decode) and 9 (value). */
public final class DecodeTest {
    private static final int[] NO_ADDRESSES = {-1, 64, Integer.MIN_VALUE, Integer.MAX_VALUE};

    public static void main(String[] args) {
        narrowest();
        narrowestWhateverTheOrder();
        endOfMemory();
        refusals();
        kinds();
        scatteredBits();
        greatestValues();
        Check.finish();
    }

    private static void narrowest() {
        OpcodeAtlas atlas = Check.ready("a 0000xxxx", "b 00000001", "c 00000001xxxxxxxx", "d 000000010000000000000000");
        atlas.poke(5, 1);
        atlas.poke(6, 9);
        Check.due("decode() of c", atlas.decode(5), 2);
        Check.due("value() of c", atlas.value(5, 0), 9);
        Check.due("decode() of a", atlas.decode(6), 0);
        Check.due("value() of a", atlas.value(6, 0), 9);
        atlas.poke(6, 0);
        Check.due("decode() of d", atlas.decode(5), 3);
        atlas.poke(7, 1);
        Check.due("decode() of c again", atlas.decode(5), 2);
        atlas.poke(5, 16);
        Check.due("decode() of nothing", atlas.decode(5), -1);
    }

    private static void narrowestWhateverTheOrder() {
        String[] texts = {"a xxxxxxxx", "b 1xxxxxxx", "c 11xxxxxx", "d 11xxxxxxxxxxxxxx", "e 111xxxxx"};
        for (int first = 0; first < texts.length; first++) {
            OpcodeAtlas atlas = new OpcodeAtlas();
            for (int i = 0; i < texts.length; i++) {
                Check.form(atlas, texts[(first + i * 3) % texts.length]);
            }
            Check.due("test()", atlas.test(), 0);
            int[] bytes = {0x00, 0x80, 0xc0, 0xe0};
            String due = "abde";
            for (int i = 0; i < bytes.length; i++) {
                atlas.poke(8, bytes[i]);
                atlas.write(8);
                Check.due("name for byte " + bytes[i], atlas.written(0), due.charAt(i));
            }
            atlas.poke(63, 0xc0);
            atlas.write(63);
            Check.due("name at the end", atlas.written(0), 'c');
        }
    }

    private static void endOfMemory() {
        OpcodeAtlas atlas = Check.ready("a 000000000000000000000000", "b 0000000000000000", "c 00000000");
        Check.due("decode(61)", atlas.decode(61), 0);
        Check.due("decode(62)", atlas.decode(62), 1);
        Check.due("decode(63)", atlas.decode(63), 2);
        OpcodeAtlas wide = Check.ready("a 00000000xxxxxxxx");
        Check.due("decode(62) of two bytes", wide.decode(62), 0);
        Check.due("decode(63) of two bytes", wide.decode(63), -1);
    }

    private static void refusals() {
        OpcodeAtlas unready = new OpcodeAtlas();
        Check.form(unready, "a 0000000x");
        OpcodeAtlas atlas = Check.ready("a 0000000x", "b 000001xy", "c 00001000");
        for (int address : NO_ADDRESSES) {
            Check.refused("unready decode", IllegalStateException.class, () -> unready.decode(address));
            Check.refused("unready value", IllegalStateException.class, () -> unready.value(address, 0));
            Check.refused("decode(" + address + ")", IndexOutOfBoundsException.class, () -> atlas.decode(address));
            Check.refused("value(" + address + ", 0)", IndexOutOfBoundsException.class, () -> atlas.value(address, 0));
        }
        for (int operand : new int[] {-1, 1, 2, 3, Integer.MIN_VALUE, Integer.MAX_VALUE}) {
            Check.refused("value(0, " + operand + ")", IndexOutOfBoundsException.class, () -> atlas.value(0, operand));
        }
        atlas.poke(1, 6);
        Check.due("value(1, 0)", atlas.value(1, 0), 1);
        Check.due("value(1, 1)", atlas.value(1, 1), 0);
        Check.refused("value(1, 2)", IndexOutOfBoundsException.class, () -> atlas.value(1, 2));
        atlas.poke(2, 8);
        Check.refused("value(2, 0)", IndexOutOfBoundsException.class, () -> atlas.value(2, 0));
        atlas.poke(3, 255);
        Check.due("decode(3)", atlas.decode(3), -1);
        Check.refused("value(3, 0)", IndexOutOfBoundsException.class, () -> atlas.value(3, 0));
    }

    private static void kinds() {
        OpcodeAtlas atlas = Check.ready("a 0000xxxx11110000");
        atlas.poke(10, 7);
        atlas.poke(11, 0xf0);
        atlas.poke(20, 8);
        atlas.poke(21, 0xf0);
        Check.due("at first, 7", atlas.value(10, 0), 7);
        Check.due("at first, 8", atlas.value(20, 0), 8);
        atlas.operand(0, 0, 0, 8, -100);
        Check.due("plain 7", atlas.value(10, 0), -44);
        Check.due("plain 8", atlas.value(20, 0), -36);
        atlas.operand(0, 0, 1, 3, 100);
        Check.due("signed 7", atlas.value(10, 0), 121);
        Check.due("signed 8", atlas.value(20, 0), 76);
        atlas.operand(0, 0, 2, 2, 5);
        Check.due("relative 7", atlas.value(10, 0), 14 + 5 + 12);
        Check.due("relative 8", atlas.value(20, 0), -16 + 5 + 22);
    }

    private static void scatteredBits() {
        OpcodeAtlas atlas = Check.ready("a xyzxyzxyzxyz0000");
        atlas.operand(0, 1, 1, 1, 0);
        // x 1010, y 1101, z 0011
        atlas.poke(0, 0b11001010);
        atlas.poke(1, 0b10110000);
        Check.due("x", atlas.value(0, 0), 0b1010);
        Check.due("y", atlas.value(0, 1), 0b1101 - 16);
        Check.due("z", atlas.value(0, 2), 0b0011);
        OpcodeAtlas turned = Check.ready("a zzzyyx00");
        turned.poke(0, 0b01110100);
        Check.due("turned x", turned.value(0, 0), 1);
        Check.due("turned y", turned.value(0, 1), 2);
        Check.due("turned z", turned.value(0, 2), 3);
        turned.operand(0, 0, 1, 1, 0);
        Check.due("one bit, signed", turned.value(0, 0), -1);
    }

    private static void greatestValues() {
        OpcodeAtlas atlas = Check.ready("a 00000001xxxxxxxxxxxxxxxx");
        atlas.poke(61, 1);
        atlas.poke(62, 255);
        atlas.poke(63, 255);
        atlas.operand(0, 0, 0, 8, 100);
        Check.due("the greatest value", atlas.value(61, 0), 65535 * 8 + 100);
        atlas.poke(62, 128);
        atlas.poke(63, 0);
        atlas.operand(0, 0, 1, 8, -100);
        Check.due("the least value", atlas.value(61, 0), -32768 * 8 - 100);
        atlas.operand(0, 0, 2, 8, -100);
        Check.due("relative to 64", atlas.value(61, 0), -32768 * 8 - 100 + 64);
    }
}
