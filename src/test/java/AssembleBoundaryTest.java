import java.util.Arrays;
import java.util.NoSuchElementException;

/** The sentences of Terms (labels) and of promises 14 and 15 that name a boundary, a test for each. */
public final class AssembleBoundaryTest {
    private static final String NO_FIELD = "java.lang.IllegalArgumentException";
    private static final String NO_ROOM = "java.lang.IndexOutOfBoundsException";

    public static void main(String[] args) {
        Check.sentence("Its value is the address of its line", AssembleBoundaryTest::labelValue);
        Check.sentence("the origin plus the bytes of all instructions before it", AssembleBoundaryTest::lineAddress);
        Check.sentence("the form with its name and as many operands", AssembleBoundaryTest::formOfInstruction);
        Check.sentence("Puts the bytes of all instructions into the memory, from the origin on",
            AssembleBoundaryTest::putsBytes);
        Check.sentence("assemble(): how many", AssembleBoundaryTest::howMany);
        Check.sentence("Throws IllegalStateException when the atlas isn't ready", AssembleBoundaryTest::notReady);
        Check.sentence("NoSuchElementException when a line's instruction has no form", AssembleBoundaryTest::noForm);
        Check.sentence("(looked at first, for all lines)", AssembleBoundaryTest::formsFirst);
        Check.sentence("or a label of an operand stands before no colon", AssembleBoundaryTest::noLabel);
        Check.sentence("(for all lines then)", AssembleBoundaryTest::labelsThen);
        Check.sentence("IndexOutOfBoundsException when the origin is not 0 .. 63", AssembleBoundaryTest::origins);
        Check.sentence("or there are more bytes than fit behind it", AssembleBoundaryTest::room);
        Check.sentence("when an operand's value is not that of any field: range", AssembleBoundaryTest::range);
        Check.sentence("when an operand's value is not that of any field: scale", AssembleBoundaryTest::between);
        Check.sentence("when an operand's value is not that of any field: a label", AssembleBoundaryTest::farLabel);
        Check.sentence("when an operand's value is not that of any field: any of them",
            AssembleBoundaryTest::anyOperand);
        Check.sentence("(Then nothing is put.)", AssembleBoundaryTest::nothingPut);
        Check.sentence("The line (from 0) for which assemble() threw", AssembleBoundaryTest::faultFrom0);
        Check.sentence("the first such one", AssembleBoundaryTest::firstSuch);
        Check.sentence("threw NoSuchElementException or IllegalArgumentException last",
            AssembleBoundaryTest::threwLast);
        Check.sentence("-1 when it never did", AssembleBoundaryTest::neverDid);
        Check.finish();
    }

    private static String assembled(OpcodeAtlas atlas, int origin) {
        return Check.answer(() -> atlas.assemble(origin));
    }

    private static String[] times(int count, String text) {
        String[] texts = new String[count];
        Arrays.fill(texts, text);
        return texts;
    }

    private static void labelValue() {
        for (char label = 'A'; label <= 'F'; label++) {
            OpcodeAtlas atlas = Check.ready("a xxxxxxxx");
            Check.program(atlas, "a 0", label + ":a " + label, "a " + label);
            Check.due("assemble(0)", atlas.assemble(0), 3);
            Check.bytes(label + " from 0", atlas, 0, 0, 1, 1);
            Check.due("assemble(61)", atlas.assemble(61), 3);
            Check.bytes(label + " from 61", atlas, 61, 0, 62, 62);
        }
        OpcodeAtlas ends = Check.ready("a xxxxxxxx");
        Check.program(ends, "A:a B", "a A", "B:");
        Check.due("assemble(62)", ends.assemble(62), 2);
        Check.bytes("a label behind the memory", ends, 62, 64, 62);
        Check.due("assemble(0)", ends.assemble(0), 2);
        Check.bytes("a label at 0", ends, 0, 2, 0);
    }

    private static void lineAddress() {
        OpcodeAtlas atlas = Check.ready("a 1xxxxxxx", "b 01111111xxxxxxxx", "c 00111111xxxxxxxx00000000");
        Check.program(atlas, "A:", "B:a A", "C:b B", "D:c C", "E:", "F:a D", "a E", "a F");
        Check.due("assemble(20)", atlas.assemble(20), 9);
        Check.bytes("the labels", atlas, 20, 128 + 20, 127, 20, 63, 21, 0, 128 + 23, 128 + 26, 128 + 26);
        // The address behind an instruction counts its own bytes.
        for (int form = 0; form < 3; form++) {
            atlas.operand(form, 0, 2, 1, 0);
        }
        Check.program(atlas, "a A", "A:b A", "c B", "B:");
        Check.due("assemble(58)", atlas.assemble(58), 6);
        Check.bytes("relative labels", atlas, 58, 128, 127, 254, 63, 0, 0);
    }

    private static void formOfInstruction() {
        OpcodeAtlas atlas = Check.ready("a 00000001", "a 00000010xxxxxxxx", "a 00000011xxxxxxxxyyyyyyyy",
            "a 001xxyyz", "b 11111111");
        Check.program(atlas, "a", "a 9", "a 8,7", "a 3,2,1", "b", "A:a A");
        Check.due("assemble(3)", atlas.assemble(3), 10);
        Check.bytes("the forms", atlas, 3, 1, 2, 9, 3, 8, 7, 0b00111101, 255, 2, 11);
    }

    private static void putsBytes() {
        OpcodeAtlas atlas = Check.ready("a 11111111", "b 1111111011111101", "c 111110111111011111101111");
        for (int address = 0; address < 64; address++) {
            atlas.poke(address, 7);
        }
        Check.program(atlas, "a", "A:", "b", "c");
        Check.due("assemble(29)", atlas.assemble(29), 6);
        for (int address = 0; address < 64; address++) {
            int[] put = {0xff, 0xfe, 0xfd, 0xfb, 0xf7, 0xef};
            boolean within = address >= 29 && address < 35;
            Check.due("byte " + address, atlas.peek(address), within ? put[address - 29] : 7);
        }
        atlas.assemble(0);
        Check.bytes("from 0", atlas, 0, 0xff, 0xfe, 0xfd, 0xfb, 0xf7, 0xef, 7);
        atlas.assemble(58);
        Check.bytes("up to 63", atlas, 57, 7, 0xff, 0xfe, 0xfd, 0xfb, 0xf7, 0xef);
        Check.due("the lines stay", atlas.count(1), 4);
    }

    private static void howMany() {
        OpcodeAtlas atlas = Check.ready("a 11111111", "b 1111111011111101", "c 111110111111011111101111");
        Check.due("no lines", atlas.assemble(0), 0);
        Check.due("no lines at 63", atlas.assemble(63), 0);
        Check.program(atlas, "A:", "B:", "C:", "D:", "E:", "F:");
        Check.due("labels alone at 63", atlas.assemble(63), 0);
        Check.program(atlas, "c");
        Check.due("one line", atlas.assemble(0), 3);
        Check.program(atlas, times(20, "a"));
        Check.due("20 bytes", atlas.assemble(44), 20);
        Check.program(atlas, times(20, "b"));
        Check.due("40 bytes", atlas.assemble(24), 40);
        Check.program(atlas, times(20, "c"));
        Check.due("60 bytes", atlas.assemble(4), 60);
    }

    private static void notReady() {
        OpcodeAtlas fresh = new OpcodeAtlas();
        OpcodeAtlas atlas = Check.ready("a 0000000x");
        Check.form(atlas, "b 11111111");
        for (String text : new String[] {"a 1", "c", "a A", "a 9", "A:"}) {
            Check.program(fresh, text);
            Check.program(atlas, text);
            for (int origin : new int[] {0, -1, 64}) {
                Check.refused("a new object", IllegalStateException.class, () -> fresh.assemble(origin));
                Check.refused("a new form", IllegalStateException.class, () -> atlas.assemble(origin));
            }
        }
        Check.due("fault()", atlas.fault(), -1);
        Check.due("the first byte", atlas.peek(0), 0);
        Check.program(atlas, "a 1");
        atlas.test();
        Check.due("assemble(0) once it is ready", atlas.assemble(0), 1);
    }

    private static void noForm() {
        OpcodeAtlas atlas = Check.ready("a 0000000x", "abcd 11111111");
        String[] texts = {"b", "a", "a 0,0", "a 0,0,0", "abcd 0", "abc", "bcd", "aa 0", "A:b", "A:a A,A"};
        for (String text : texts) {
            Check.program(atlas, text);
            Check.refused("assemble() of " + text, NoSuchElementException.class, () -> atlas.assemble(0));
            Check.due("fault()", atlas.fault(), 0);
        }
        OpcodeAtlas empty = Check.ready();
        Check.program(empty, "A:");
        Check.due("a label needs no form", empty.assemble(0), 0);
        Check.line(empty, "a");
        Check.refused("without forms", NoSuchElementException.class, () -> empty.assemble(0));
        Check.due("fault()", empty.fault(), 1);
    }

    private static void formsFirst() {
        OpcodeAtlas atlas = Check.ready("a 1111xxxx");
        String[] texts = times(20, "a A");
        texts[19] = "b";
        Check.program(atlas, texts);
        for (int origin : new int[] {0, 63, -1, 64, Integer.MIN_VALUE, Integer.MAX_VALUE}) {
            Check.refused("no form in the last line", NoSuchElementException.class, () -> atlas.assemble(origin));
            Check.due("fault()", atlas.fault(), 19);
        }
        Check.program(atlas, "a 99", "a A", "b B");
        Check.refused("no form before no field", NoSuchElementException.class, () -> atlas.assemble(0));
        Check.due("fault()", atlas.fault(), 2);
    }

    private static void noLabel() {
        for (char label = 'A'; label <= 'F'; label++) {
            OpcodeAtlas atlas = Check.ready("a 1111xxxx", "b 1110xxyz", "c 110xxxxx");
            String[] texts = {"a L", "b L,0,0", "b 0,L,0", "b 0,0,L", "B:a L", "L:a L"};
            for (String text : texts) {
                boolean own = text.startsWith("L") || text.startsWith("B") && label == 'B';
                Check.program(atlas, text.replace('L', label));
                Check.due(text + " for " + label, assembled(atlas, 0), own ? "1" : "java.util.NoSuchElementException");
            }
            Check.due("fault()", atlas.fault(), 0);
            Check.program(atlas, "a " + label, label + ":");
            Check.due("the label stands in a later line", atlas.assemble(0), 1);
            Check.program(atlas, "a " + label);
            Check.refused("the label was erased", NoSuchElementException.class, () -> atlas.assemble(0));
        }
    }

    private static void labelsThen() {
        OpcodeAtlas atlas = Check.ready("a 1111xxxx");
        String[] texts = times(20, "a 99");
        texts[19] = "a A";
        Check.program(atlas, texts);
        for (int origin : new int[] {0, 63, -1, 64, Integer.MIN_VALUE, Integer.MAX_VALUE}) {
            Check.refused("no label in the last line", NoSuchElementException.class, () -> atlas.assemble(origin));
            Check.due("fault()", atlas.fault(), 19);
        }
    }

    private static void origins() {
        OpcodeAtlas atlas = Check.ready("a 1111xxxx");
        for (int origin : new int[] {-1, 64, -2, 65, -64, 128, Integer.MIN_VALUE, Integer.MAX_VALUE}) {
            atlas.erase();
            Check.due("no lines from " + origin, assembled(atlas, origin), NO_ROOM);
            Check.program(atlas, "A:");
            Check.due("a label from " + origin, assembled(atlas, origin), NO_ROOM);
            Check.program(atlas, "a 1");
            Check.due("a byte from " + origin, assembled(atlas, origin), NO_ROOM);
            Check.program(atlas, "a 99");
            Check.due("no field from " + origin, assembled(atlas, origin), NO_ROOM);
        }
        Check.program(atlas, "a 1");
        for (int origin = 0; origin < 64; origin++) {
            Check.due("a byte from " + origin, assembled(atlas, origin), "1");
        }
        Check.due("fault()", atlas.fault(), -1);
    }

    private static void room() {
        OpcodeAtlas atlas = Check.ready("a 00000001", "b 0000001000000010", "c 000000110000001100000011");
        String[] names = {"a", "b", "c"};
        for (int bytes = 1; bytes <= 3; bytes++) {
            for (int count : new int[] {1, 2, 20}) {
                Check.program(atlas, times(count, names[bytes - 1]));
                int last = 64 - bytes * count;
                Check.due("just as many bytes as fit", assembled(atlas, last), "" + bytes * count);
                Check.due("the last byte", atlas.poke(63, 0), bytes);
                Check.due("one byte more than fits", assembled(atlas, last + 1), NO_ROOM);
                Check.due("63 alone", assembled(atlas, 63), bytes * count == 1 ? "1" : NO_ROOM);
                atlas.poke(63, 0);
            }
        }
        Check.program(atlas, "a", "b", "c");
        atlas.poke(59, 9);
        Check.due("six bytes from 59", assembled(atlas, 59), NO_ROOM);
        Check.due("nothing is put", atlas.peek(59), 9);
        Check.due("six bytes from 58", assembled(atlas, 58), "6");
        Check.due("fault()", atlas.fault(), -1);
    }

    /** Assembles one instruction of three bytes at address 5. */
    private static void one(OpcodeAtlas atlas, int number, String want) {
        Check.program(atlas, "a " + number);
        Check.due("assemble() of a " + number, assembled(atlas, 5), want);
        if (want.equals("3")) {
            Check.due("what was put decodes to it", atlas.value(5, 0), number);
        }
    }

    private static OpcodeAtlas withBits(int bits, int kind, int scale, int offset) {
        OpcodeAtlas atlas = Check.ready("a " + "1".repeat(24 - bits) + "x".repeat(bits));
        atlas.operand(0, 0, kind, scale, offset);
        return atlas;
    }

    private static void range() {
        for (int bits : new int[] {1, 2, 7, 8, 13, 16}) {
            for (int kind = 0; kind <= 2; kind++) {
                for (int scale : bits < 14 ? new int[] {1, 3, 8} : new int[] {1}) {
                    for (int offset : new int[] {-100, 0, 100}) {
                        OpcodeAtlas atlas = withBits(bits, kind, scale, offset);
                        int base = offset + (kind == 2 ? 8 : 0);
                        int least = kind == 0 ? 0 : -(1 << bits - 1);
                        int greatest = least + (1 << bits) - 1;
                        one(atlas, (least - 1) * scale + base, NO_FIELD);
                        one(atlas, least * scale + base, "3");
                        one(atlas, base, "3");
                        one(atlas, greatest * scale + base, "3");
                        one(atlas, (greatest + 1) * scale + base, NO_FIELD);
                    }
                }
            }
        }
        OpcodeAtlas wide = withBits(16, 0, 1, 0);
        one(wide, 65535, "3");
        one(wide, 65536, NO_FIELD);
        one(wide, 99999, NO_FIELD);
        one(wide, -99999, NO_FIELD);
    }

    private static void between() {
        for (int kind = 0; kind <= 2; kind++) {
            for (int scale = 1; scale <= 8; scale++) {
                OpcodeAtlas atlas = withBits(8, kind, scale, -3);
                int base = -3 + (kind == 2 ? 8 : 0);
                for (int rest = 0; rest <= scale; rest++) {
                    one(atlas, 5 * scale + rest + base, rest % scale == 0 ? "3" : NO_FIELD);
                    if (kind > 0) {
                        one(atlas, -5 * scale - rest + base, rest % scale == 0 ? "3" : NO_FIELD);
                    }
                }
            }
        }
    }

    private static void farLabel() {
        OpcodeAtlas atlas = Check.ready("a 1111xxxx", "b 00000001");
        Check.program(atlas, "A:a A");
        Check.due("A at 15", assembled(atlas, 15), "1");
        Check.due("A at 16", assembled(atlas, 16), NO_FIELD);
        atlas.operand(0, 0, 2, 1, 0);
        String[] texts = times(10, "b");
        texts[0] = "a A";
        texts[8] = "A:b";
        texts[9] = "B:a B";
        Check.program(atlas, texts);
        Check.due("seven bytes ahead", assembled(atlas, 20), "10");
        Check.bytes("the labels", atlas, 20, 0xf7);
        Check.bytes("a jump to itself", atlas, 29, 0xff);
        texts[8] = "b";
        texts[9] = "A:b";
        Check.program(atlas, texts);
        Check.due("eight bytes ahead", assembled(atlas, 20), NO_FIELD);
        texts = times(9, "b");
        texts[0] = "A:b";
        texts[7] = "a A";
        Check.program(atlas, texts);
        Check.due("eight bytes back", assembled(atlas, 20), "9");
        Check.bytes("the byte", atlas, 27, 0xf8);
        texts[7] = "b";
        texts[8] = "a A";
        Check.program(atlas, texts);
        Check.due("nine bytes back", assembled(atlas, 20), NO_FIELD);
    }

    private static void anyOperand() {
        OpcodeAtlas atlas = Check.ready("a 11xxyyzz");
        String[] texts = {"a 4,0,0", "a 0,4,0", "a 0,0,4", "a -1,3,3", "a 3,-1,3", "a 3,3,-1", "A:a 0,B,0"};
        for (String text : texts) {
            Check.program(atlas, text, "a 0,0,0", "B:");
            Check.due(text, assembled(atlas, 30), NO_FIELD);
            Check.due("fault()", atlas.fault(), 0);
            Check.bytes("nothing is put", atlas, 30, 0, 0);
        }
        Check.program(atlas, "a 3,3,3", "a 0,0,0", "a 1,2,3");
        Check.due("all fit", assembled(atlas, 30), "3");
        Check.bytes("the bytes", atlas, 30, 0xff, 0xc0, 0b11011011);
    }

    private static void nothingPut() {
        OpcodeAtlas atlas = Check.ready("a 1111xxxx");
        for (int address = 0; address < 64; address++) {
            atlas.poke(address, address + 1);
        }
        String[] texts = times(20, "a 1");
        texts[19] = "a 16";
        Check.program(atlas, texts);
        Check.due("no field in the last line", assembled(atlas, 0), NO_FIELD);
        Check.due("no field in the last line, up to 63", assembled(atlas, 44), NO_FIELD);
        Check.due("no room for the last line", assembled(atlas, 45), NO_ROOM);
        for (int address = 0; address < 64; address++) {
            Check.due("byte " + address, atlas.peek(address), address + 1);
        }
    }

    private static void faultFrom0() {
        for (int at = 0; at < 20; at++) {
            for (String bad : new String[] {"b", "a A", "a 16"}) {
                OpcodeAtlas atlas = Check.ready("a 1111xxxx");
                String[] texts = times(20, "a 1");
                texts[at] = bad;
                Check.program(atlas, texts);
                assembled(atlas, 0);
                Check.due("fault() of " + bad + " in line " + at, atlas.fault(), at);
            }
        }
    }

    private static void firstSuch() {
        for (String bad : new String[] {"b", "a A", "a 16"}) {
            OpcodeAtlas atlas = Check.ready("a 1111xxxx");
            Check.program(atlas, "a 1", bad, "B:", bad, bad);
            assembled(atlas, 0);
            Check.due("fault() of " + bad, atlas.fault(), 1);
        }
        // A label alone counts as a line.
        OpcodeAtlas labels = Check.ready("a 1111xxxx");
        Check.program(labels, "A:", "B:", "a 16", "a 17");
        assembled(labels, 0);
        Check.due("fault() behind labels", labels.fault(), 2);
    }

    private static void threwLast() {
        OpcodeAtlas atlas = Check.ready("a 1111xxxx");
        Check.program(atlas, "a 1", "a 2", "b");
        Check.refused("no form", NoSuchElementException.class, () -> atlas.assemble(0));
        Check.due("fault() of no form", atlas.fault(), 2);
        Check.program(atlas, "a 1", "a 16");
        Check.refused("no field", IllegalArgumentException.class, () -> atlas.assemble(0));
        Check.due("fault() of no field", atlas.fault(), 1);
        Check.refused("no room", IndexOutOfBoundsException.class, () -> atlas.assemble(63));
        Check.due("fault() after no room", atlas.fault(), 1);
        Check.refused("no origin", IndexOutOfBoundsException.class, () -> atlas.assemble(64));
        Check.due("fault() after no origin", atlas.fault(), 1);
        Check.program(atlas, "a 1");
        Check.due("fault() after erase()", atlas.fault(), 1);
        atlas.assemble(0);
        Check.due("fault() after all went well", atlas.fault(), 1);
        Check.refused("no line", IllegalArgumentException.class, atlas::line);
        Check.refused("no form's text", IllegalArgumentException.class, atlas::form);
        Check.refused("no operand", IllegalArgumentException.class, () -> atlas.operand(9, 0, 0, 1, 0));
        Check.due("fault() after others threw", atlas.fault(), 1);
        Check.form(atlas, "b 00000000");
        Check.program(atlas, "c");
        Check.refused("not ready", IllegalStateException.class, () -> atlas.assemble(0));
        Check.due("fault() after not ready", atlas.fault(), 1);
        atlas.test();
        Check.refused("no form", NoSuchElementException.class, () -> atlas.assemble(0));
        Check.due("fault() of line 0", atlas.fault(), 0);
    }

    private static void neverDid() {
        Check.due("fault() of a new object", new OpcodeAtlas().fault(), -1);
        OpcodeAtlas atlas = new OpcodeAtlas();
        Check.refused("not ready", IllegalStateException.class, () -> atlas.assemble(0));
        Check.due("fault() after not ready", atlas.fault(), -1);
        Check.form(atlas, "a 1111xxxx");
        atlas.test();
        Check.program(atlas, "a 1", "a 2");
        Check.refused("no room", IndexOutOfBoundsException.class, () -> atlas.assemble(63));
        Check.refused("no origin", IndexOutOfBoundsException.class, () -> atlas.assemble(-1));
        atlas.assemble(0);
        Check.due("fault() after all else", atlas.fault(), -1);
    }
}
