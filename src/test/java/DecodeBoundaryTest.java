/** The sentences of Terms (field, value, matches) and of promises 8 and 9 that name a boundary, a test for each. */
public final class DecodeBoundaryTest {
    private static final int[] NO_ADDRESSES =
        {-1, 64, -2, 65, -64, 128, 256, Integer.MIN_VALUE, Integer.MIN_VALUE + 63, Integer.MAX_VALUE};
    private static final int[] NO_OPERANDS = {-1, 3, 4, 32, 256, Integer.MIN_VALUE, Integer.MAX_VALUE};

    public static void main(String[] args) {
        Check.sentence("FIELD .. the first one being the highest", DecodeBoundaryTest::firstBitHighest);
        Check.sentence("VALUE is the field (of n bits ..) for kind 0", DecodeBoundaryTest::plainFields);
        Check.sentence("for kinds 1 and 2, if the highest one is set, less 2^n", DecodeBoundaryTest::signedFields);
        Check.sentence("times the scale, plus the offset", DecodeBoundaryTest::scaleAndOffset);
        Check.sentence("and for kind 2 plus the address behind the instruction", DecodeBoundaryTest::addressBehind);
        Check.sentence("MATCHES .. if all its bytes lie in the memory", DecodeBoundaryTest::bytesInMemory);
        Check.sentence("MATCHES .. and the fixed bits are as told", DecodeBoundaryTest::fixedBits);
        Check.sentence("the narrowest form that matches there", DecodeBoundaryTest::narrowest);
        Check.sentence("decode(): -1 if none matches", DecodeBoundaryTest::noneMatches);
        Check.sentence("decode(): Throws IllegalStateException when the atlas isn't ready",
            DecodeBoundaryTest::notReady);
        Check.sentence("decode(): IndexOutOfBoundsException when there is no such address",
            DecodeBoundaryTest::nowhere);
        Check.sentence("value(): Throws likewise", DecodeBoundaryTest::valueLikewise);
        Check.sentence("value(): .. also when no form matches", DecodeBoundaryTest::valueOfNone);
        Check.sentence("value(): .. or it has no such operand", DecodeBoundaryTest::noSuchOperand);
        Check.finish();
    }

    private static void put(OpcodeAtlas atlas, int address, int bytes, int word) {
        for (int i = 0; i < bytes; i++) {
            atlas.poke(address + i, word >> 8 * (bytes - 1 - i));
        }
    }

    private static void firstBitHighest() {
        for (int k = 0; k < 16; k++) {
            OpcodeAtlas atlas = Check.ready("a xxxxxxxxxxxxxxxx");
            put(atlas, 0, 2, 1 << 15 - k);
            Check.due("the value of sign " + k, atlas.value(0, 0), 1 << 15 - k);
        }
        OpcodeAtlas apart = Check.ready("a x000000000000000y0z0yx0z");
        put(apart, 3, 3, 0x800000);
        Check.due("the first x", apart.value(3, 0), 2);
        put(apart, 3, 3, 0x000004);
        Check.due("the second x", apart.value(3, 0), 1);
        put(apart, 3, 3, 0x000080);
        Check.due("the first y", apart.value(3, 1), 2);
        put(apart, 3, 3, 0x000008);
        Check.due("the second y", apart.value(3, 1), 1);
        put(apart, 3, 3, 0x000020);
        Check.due("the first z", apart.value(3, 2), 2);
        put(apart, 3, 3, 0x000001);
        Check.due("the second z", apart.value(3, 2), 1);
    }

    private static OpcodeAtlas withBits(int bits, int kind, int scale, int offset) {
        OpcodeAtlas atlas = Check.ready("a " + "0".repeat(24 - bits) + "x".repeat(bits));
        atlas.operand(0, 0, kind, scale, offset);
        return atlas;
    }

    private static int[] edges(int bits) {
        int half = 1 << bits - 1;
        return new int[] {0, Math.min(1, half), half - 1, half, Math.min(half + 1, 2 * half - 1), 2 * half - 1};
    }

    private static void plainFields() {
        for (int bits = 1; bits <= 16; bits++) {
            OpcodeAtlas atlas = withBits(bits, 0, 1, 0);
            for (int field : edges(bits)) {
                put(atlas, 0, 3, field);
                Check.due(bits + " bits, field " + field, atlas.value(0, 0), field);
            }
        }
    }

    private static void signedFields() {
        for (int bits = 1; bits <= 16; bits++) {
            for (int kind = 1; kind <= 2; kind++) {
                OpcodeAtlas atlas = withBits(bits, kind, 1, 0);
                for (int field : edges(bits)) {
                    put(atlas, 0, 3, field);
                    int number = field >= 1 << bits - 1 ? field - (1 << bits) : field;
                    Check.due(bits + " bits, kind " + kind + ", field " + field, atlas.value(0, 0),
                        number + (kind == 2 ? 3 : 0));
                }
            }
        }
    }

    private static void scaleAndOffset() {
        for (int scale = 1; scale <= 8; scale++) {
            for (int offset : new int[] {-100, -1, 0, 1, 100}) {
                OpcodeAtlas plain = withBits(16, 0, scale, offset);
                put(plain, 0, 3, 65535);
                Check.due("the greatest", plain.value(0, 0), 65535 * scale + offset);
                put(plain, 0, 3, 0);
                Check.due("the field 0", plain.value(0, 0), offset);
                OpcodeAtlas signed = withBits(16, 1, scale, offset);
                put(signed, 0, 3, 32768);
                Check.due("the least", signed.value(0, 0), -32768 * scale + offset);
                put(signed, 0, 3, 65535);
                Check.due("the field -1", signed.value(0, 0), -scale + offset);
            }
        }
    }

    private static void addressBehind() {
        for (int bytes = 1; bytes <= 3; bytes++) {
            OpcodeAtlas atlas = Check.ready("a " + "0".repeat(8 * bytes - 3) + "xxx");
            for (int address = 0; address <= 64 - bytes; address++) {
                atlas.operand(0, 0, 2, 4, -7);
                Check.due(bytes + " bytes at " + address, atlas.value(address, 0), -7 + address + bytes);
            }
            put(atlas, 64 - bytes, bytes, 4);
            Check.due("the least field at the end", atlas.value(64 - bytes, 0), -16 - 7 + 64);
            atlas.operand(0, 0, 1, 4, -7);
            Check.due("kind 1 at the end", atlas.value(64 - bytes, 0), -16 - 7);
            atlas.operand(0, 0, 0, 4, -7);
            Check.due("kind 0 at the end", atlas.value(64 - bytes, 0), 16 - 7);
        }
    }

    private static void bytesInMemory() {
        for (int bytes = 1; bytes <= 3; bytes++) {
            OpcodeAtlas fixed = Check.ready("a " + "00000000".repeat(bytes));
            OpcodeAtlas open = Check.ready("a xxxxxxxx" + "0xxxxxxx".repeat(bytes - 1).replace('x', 'y'));
            for (int address = 58; address < 64; address++) {
                int want = address + bytes <= 64 ? 0 : -1;
                Check.due(bytes + " fixed bytes at " + address, fixed.decode(address), want);
                Check.due(bytes + " open bytes at " + address, open.decode(address), want);
            }
        }
        // The byte behind the last one is not the first one.
        OpcodeAtlas wrap = Check.ready("a 0000000111111111");
        wrap.poke(63, 1);
        wrap.poke(0, 255);
        Check.due("decode(63)", wrap.decode(63), -1);
        wrap.poke(62, 1);
        wrap.poke(63, 255);
        Check.due("decode(62)", wrap.decode(62), 0);
    }

    private static void fixedBits() {
        String[] texts = {"a 10100101", "a 1010010110100101", "a 101001011010010110100101"};
        for (int bytes = 1; bytes <= 3; bytes++) {
            OpcodeAtlas atlas = Check.ready(texts[bytes - 1]);
            int word = 0xa5a5a5 >> 24 - 8 * bytes;
            put(atlas, 5, bytes, word);
            Check.due("as told", atlas.decode(5), 0);
            for (int bit = 0; bit < 8 * bytes; bit++) {
                put(atlas, 5, bytes, word ^ 1 << bit);
                Check.due("bit " + bit + " turned", atlas.decode(5), -1);
            }
            put(atlas, 5, bytes, word);
            atlas.poke(5 + bytes, 255);
            Check.due("whatever lies behind", atlas.decode(5), 0);
        }
        for (int b = 0; b < 256; b++) {
            OpcodeAtlas open = Check.ready("a 1xxxxxx0");
            open.poke(0, b);
            Check.due("byte " + b, open.decode(0), b >= 128 && b % 2 == 0 ? 0 : -1);
        }
    }

    private static void narrowest() {
        // Each is narrower than the one before it, and all of them match zeros.
        String[] signs = {"xxxxxxxx", "0xxxxxxx", "00xxxxxx", "000xxxxx", "0000xxxx", "00000xxx", "000000xx",
            "0000000x", "00000000", "00000000xxxxxxxx", "000000000xxxxxxx", "000000000xxxxxxxxxxxxxxx"};
        for (int turn = 0; turn < 12; turn++) {
            OpcodeAtlas atlas = new OpcodeAtlas();
            for (int i = 0; i < 12; i++) {
                Check.form(atlas, (char) ('a' + i) + " " + signs[(turn + 5 * i) % 12]);
            }
            Check.due("test()", atlas.test(), 0);
            Check.due("the narrowest of all", signs[(turn + 5 * atlas.decode(0)) % 12], signs[11]);
            Check.due("the narrowest at 62", signs[(turn + 5 * atlas.decode(62)) % 12], signs[10]);
            Check.due("the narrowest at 63", signs[(turn + 5 * atlas.decode(63)) % 12], signs[8]);
            for (int bit = 0; bit < 8; bit++) {
                atlas.poke(0, 1 << bit);
                Check.due("the narrowest for bit " + bit, signs[(turn + 5 * atlas.decode(0)) % 12], signs[7 - bit]);
            }
        }
    }

    private static void noneMatches() {
        Check.due("no forms", Check.ready().decode(0), -1);
        Check.due("no forms, at 63", Check.ready().decode(63), -1);
        OpcodeAtlas atlas = Check.ready("a 00000001", "b 0000000000000001");
        for (int address = 0; address < 64; address++) {
            Check.due("decode(" + address + ")", atlas.decode(address), -1);
        }
        atlas.poke(63, 1);
        Check.due("decode(62)", atlas.decode(62), 1);
        Check.due("decode(63)", atlas.decode(63), 0);
    }

    private static OpcodeAtlas unready() {
        OpcodeAtlas atlas = Check.ready("a 0000000x");
        Check.form(atlas, "b 11111111");
        return atlas;
    }

    private static void notReady() {
        OpcodeAtlas fresh = new OpcodeAtlas();
        OpcodeAtlas atlas = unready();
        for (int address : new int[] {0, 63, -1, 64, Integer.MIN_VALUE, Integer.MAX_VALUE}) {
            Check.refused("decode() of a new object", IllegalStateException.class, () -> fresh.decode(address));
            Check.refused("decode() after a new form", IllegalStateException.class, () -> atlas.decode(address));
        }
        atlas.test();
        Check.due("decode(0) once it is ready", atlas.decode(0), 0);
    }

    private static void nowhere() {
        OpcodeAtlas atlas = Check.ready("a 0000000x");
        OpcodeAtlas empty = Check.ready();
        for (int address : NO_ADDRESSES) {
            Check.refused("decode(" + address + ")", IndexOutOfBoundsException.class, () -> atlas.decode(address));
            Check.refused("without forms", IndexOutOfBoundsException.class, () -> empty.decode(address));
        }
        Check.due("decode(0)", atlas.decode(0), 0);
        Check.due("decode(63)", atlas.decode(63), 0);
    }

    private static void valueLikewise() {
        OpcodeAtlas unready = unready();
        Check.refused("not ready", IllegalStateException.class, () -> unready.value(0, 0));
        Check.refused("not ready, no operand", IllegalStateException.class, () -> unready.value(0, 5));
        Check.refused("not ready, no address", IllegalStateException.class, () -> unready.value(64, 0));
        OpcodeAtlas atlas = Check.ready("a 0000000x");
        for (int address : NO_ADDRESSES) {
            Check.refused("value(" + address + ", 0)", IndexOutOfBoundsException.class, () -> atlas.value(address, 0));
        }
        atlas.poke(63, 1);
        Check.due("value(0, 0)", atlas.value(0, 0), 0);
        Check.due("value(63, 0)", atlas.value(63, 0), 1);
    }

    private static void valueOfNone() {
        OpcodeAtlas atlas = Check.ready("a 0000000xxxxxxxxx");
        atlas.poke(10, 2);
        Check.due("value(9, 0)", atlas.value(9, 0), 2);
        Check.refused("value(10, 0)", IndexOutOfBoundsException.class, () -> atlas.value(10, 0));
        Check.due("value(62, 0)", atlas.value(62, 0), 0);
        Check.refused("value(63, 0)", IndexOutOfBoundsException.class, () -> atlas.value(63, 0));
        Check.refused("without forms", IndexOutOfBoundsException.class, () -> Check.ready().value(0, 0));
    }

    private static void noSuchOperand() {
        String[] signs = {"00000000", "0000000x", "000000xy", "00000xyz"};
        for (int count = 0; count <= 3; count++) {
            // A form with three operands stands before, so that an operand too far is not simply absent everywhere.
            OpcodeAtlas atlas = Check.ready("a 1111xxyz", "b " + signs[count]);
            for (int operand = 0; operand <= 3; operand++) {
                int asked = operand;
                Check.due("operand " + operand + " of " + count, Check.answer(() -> atlas.value(0, asked)),
                    operand < count ? "0" : "java.lang.IndexOutOfBoundsException");
            }
            for (int operand : NO_OPERANDS) {
                Check.refused("operand " + operand, IndexOutOfBoundsException.class, () -> atlas.value(0, operand));
            }
        }
    }
}
