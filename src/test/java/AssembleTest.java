import java.util.NoSuchElementException;

/** Promises 14 (assemble) and 15 (fault). */
public final class AssembleTest {
    public static void main(String[] args) {
        program();
        labels();
        lineWithoutInstruction();
        edgesOfFields();
        scales();
        edgesOfMemory();
        orderOfRefusals();
        unknownNames();
        refusedLineLeavesNothing();
        faultStays();
        everyFieldComesBack();
        Check.finish();
    }

    private static OpcodeAtlas small() {
        OpcodeAtlas atlas = Check.ready("nop 00000000", "ld 01xxxyyy", "jp 11000011xxxxxxxx", "br 10xxxxxx");
        atlas.operand(3, 0, 2, 1, 0);
        return atlas;
    }

    private static void program() {
        OpcodeAtlas atlas = small();
        atlas.poke(10, 99);
        atlas.poke(9, 77);
        atlas.poke(15, 88);
        Check.program(atlas, "A:nop", "ld 3,5", "br A", "jp B", "B:");
        Check.due("assemble(10)", atlas.assemble(10), 5);
        Check.bytes("the program", atlas, 9, 77, 0, 0b01011101, 0b10111101, 0xc3, 15, 88);
        Check.due("fault()", atlas.fault(), -1);
        Check.due("count(1) after assemble()", atlas.count(1), 5);
        Check.due("assemble(20)", atlas.assemble(20), 5);
        Check.bytes("the program again", atlas, 20, 0, 0b01011101, 0b10111101, 0xc3, 25, 0);
        Check.program(atlas, "nop");
        Check.due("assemble(9)", atlas.assemble(9), 1);
        Check.bytes("what a shorter program leaves", atlas, 9, 0, 0, 0b01011101);
    }

    private static void labels() {
        OpcodeAtlas atlas = Check.ready("a 00000001xxxxxxxxyyyyyyyy", "b 1xxxxxxx");
        Check.program(atlas, "A:", "B:a A,D", "C:b C", "b F", "D:", "E:", "F:b B");
        Check.due("assemble(7)", atlas.assemble(7), 6);
        Check.bytes("labels", atlas, 7, 1, 7, 12, 128 + 10, 128 + 12, 128 + 7);
    }

    private static void lineWithoutInstruction() {
        OpcodeAtlas atlas = Check.ready("a xxxxxxxx");
        Check.program(atlas, "A:", "B:", "C:");
        Check.due("labels alone", atlas.assemble(63), 0);
        Check.program(atlas, "a A", "A:");
        Check.due("a label behind the memory", atlas.assemble(63), 1);
        Check.due("its value", atlas.peek(63), 64);
    }

    private static void refusedFor(OpcodeAtlas atlas, String text) {
        Check.program(atlas, text);
        Check.refused("assemble() of " + text, IllegalArgumentException.class, () -> atlas.assemble(4));
    }

    private static void takenFor(OpcodeAtlas atlas, String text, int want) {
        Check.program(atlas, text);
        Check.due("assemble() of " + text, atlas.assemble(4), 1);
        Check.due("the byte of " + text, atlas.peek(4), want);
    }

    private static void edgesOfFields() {
        OpcodeAtlas atlas = Check.ready("a 1111xxxx");
        takenFor(atlas, "a 0", 0xf0);
        takenFor(atlas, "a -0", 0xf0);
        takenFor(atlas, "a 00015", 0xff);
        refusedFor(atlas, "a 16");
        refusedFor(atlas, "a -1");
        atlas.operand(0, 0, 1, 1, 0);
        takenFor(atlas, "a 7", 0xf7);
        takenFor(atlas, "a -8", 0xf8);
        takenFor(atlas, "a -1", 0xff);
        refusedFor(atlas, "a 8");
        refusedFor(atlas, "a -9");
        atlas.operand(0, 0, 2, 1, 0);
        takenFor(atlas, "a 12", 0xf7);
        takenFor(atlas, "a -3", 0xf8);
        takenFor(atlas, "a 5", 0xf0);
        refusedFor(atlas, "a 13");
        refusedFor(atlas, "a -4");
        refusedFor(atlas, "a 99999");
        refusedFor(atlas, "a -99999");
    }

    private static void scales() {
        OpcodeAtlas atlas = Check.ready("a 1111xxxx");
        atlas.operand(0, 0, 0, 8, 100);
        takenFor(atlas, "a 100", 0xf0);
        takenFor(atlas, "a 220", 0xff);
        refusedFor(atlas, "a 104");
        refusedFor(atlas, "a 92");
        refusedFor(atlas, "a 228");
        refusedFor(atlas, "a 99");
        atlas.operand(0, 0, 1, 3, -100);
        takenFor(atlas, "a -100", 0xf0);
        takenFor(atlas, "a -103", 0xff);
        takenFor(atlas, "a -124", 0xf8);
        takenFor(atlas, "a -79", 0xf7);
        refusedFor(atlas, "a -101");
        refusedFor(atlas, "a -99");
        refusedFor(atlas, "a -127");
        refusedFor(atlas, "a -76");
        atlas.operand(0, 0, 2, 2, 1);
        takenFor(atlas, "a 4", 0xff);
        takenFor(atlas, "a 20", 0xf7);
        takenFor(atlas, "a -10", 0xf8);
        refusedFor(atlas, "a 5");
        refusedFor(atlas, "a 22");
        refusedFor(atlas, "a -12");
    }

    private static void edgesOfMemory() {
        OpcodeAtlas atlas = Check.ready("a 11111111xxxxxxxxxxxxxxxx", "b 00001111");
        String[] twenty = new String[20];
        java.util.Arrays.fill(twenty, "a 258");
        Check.program(atlas, twenty);
        Check.due("sixty bytes", atlas.assemble(4), 60);
        Check.bytes("the last ones", atlas, 61, 255, 1, 2);
        Check.due("sixty bytes from 0", atlas.assemble(0), 60);
        Check.refused("sixty bytes from 5", IndexOutOfBoundsException.class, () -> atlas.assemble(5));
        Check.refused("sixty bytes from 63", IndexOutOfBoundsException.class, () -> atlas.assemble(63));
        Check.program(atlas, "b");
        Check.due("one byte at 63", atlas.assemble(63), 1);
        Check.bytes("one byte at 63", atlas, 61, 255, 1, 15);
        Check.program(atlas, "b", "b");
        Check.refused("two bytes at 63", IndexOutOfBoundsException.class, () -> atlas.assemble(63));
        atlas.erase();
        for (int origin : new int[] {-1, 64, Integer.MIN_VALUE, Integer.MAX_VALUE}) {
            Check.refused("assemble(" + origin + ")", IndexOutOfBoundsException.class, () -> atlas.assemble(origin));
        }
        Check.due("fault()", atlas.fault(), -1);
    }

    private static void orderOfRefusals() {
        OpcodeAtlas atlas = Check.ready("a 1111xxxx");
        Check.program(atlas, "a 99", "a A", "b");
        Check.refused("no form first", NoSuchElementException.class, () -> atlas.assemble(-1));
        Check.due("fault() of no form", atlas.fault(), 2);
        Check.program(atlas, "a 99", "a A", "a 1");
        Check.refused("no label then", NoSuchElementException.class, () -> atlas.assemble(64));
        Check.due("fault() of no label", atlas.fault(), 1);
        Check.program(atlas, "a 1", "a 2", "a 99", "a 99");
        Check.refused("no room then", IndexOutOfBoundsException.class, () -> atlas.assemble(61));
        Check.due("fault() stays", atlas.fault(), 1);
        Check.refused("no field last", IllegalArgumentException.class, () -> atlas.assemble(60));
        Check.due("fault() of no field", atlas.fault(), 2);
        Check.bytes("nothing is put", atlas, 60, 0, 0, 0, 0);
        Check.form(atlas, "b 00000000");
        Check.program(atlas, "c");
        Check.refused("unready before all", IllegalStateException.class, () -> atlas.assemble(-1));
        Check.due("fault() stays when unready", atlas.fault(), 2);
    }

    private static void unknownNames() {
        OpcodeAtlas atlas = Check.ready("a 1111xxxx", "ab 11100000");
        for (String text : new String[] {"a", "a 1,2", "ab 1", "b", "aa 1", "ba", "aaab"}) {
            Check.program(atlas, "ab", text, text);
            Check.refused("assemble() of " + text, NoSuchElementException.class, () -> atlas.assemble(0));
            Check.due("fault() of " + text, atlas.fault(), 1);
        }
        Check.program(atlas, "ab", "c A", "A:ab");
        Check.refused("assemble() of c", NoSuchElementException.class, () -> atlas.assemble(0));
        Check.form(atlas, "c 110xxxxx");
        atlas.test();
        Check.due("assemble() once c has a form", atlas.assemble(0), 3);
        Check.bytes("c", atlas, 0, 0xe0, 0xc2, 0xe0);
    }

    private static void refusedLineLeavesNothing() {
        OpcodeAtlas atlas = Check.ready("a 1111xxxx");
        Check.program(atlas, "A:a 1");
        for (String text : new String[] {"A:a 2", "A:b", "A:a B", "A:a 99", "a 2,"}) {
            Check.refused("line() of " + text, IllegalArgumentException.class, () -> Check.line(atlas, text));
            Check.due("assemble() without " + text, atlas.assemble(0), 1);
            Check.bytes("without " + text, atlas, 0, 0xf1, 0);
        }
        Check.refused("line() of a 2,?", IllegalArgumentException.class, () -> Check.line(atlas, "a 2,?"));
        Check.line(atlas, "B:");
        Check.due("assemble() with B:", atlas.assemble(0), 1);
        Check.program(atlas, "a E");
        Check.refused("no E in line 0", NoSuchElementException.class, () -> atlas.assemble(0));
        Check.due("fault() of line 0", atlas.fault(), 0);
        Check.program(atlas, "E:a 3");
        atlas.erase();
        Check.program(atlas, "a E");
        Check.refused("an erased E", NoSuchElementException.class, () -> atlas.assemble(0));
    }

    private static void faultStays() {
        OpcodeAtlas atlas = Check.ready("a 1111xxxx");
        Check.program(atlas, "a 1", "a B,1", "a C");
        Check.refused("two lines at fault", NoSuchElementException.class, () -> atlas.assemble(0));
        Check.due("fault()", atlas.fault(), 1);
        atlas.erase();
        Check.due("fault() after erase()", atlas.fault(), 1);
        Check.due("assemble()", atlas.assemble(0), 0);
        Check.due("fault() after a good assemble()", atlas.fault(), 1);
        Check.program(atlas, "a 1", "a 2", "a 3", "a 16");
        Check.refused("line 3 at fault", IllegalArgumentException.class, () -> atlas.assemble(0));
        Check.due("fault() of line 3", atlas.fault(), 3);
        Check.program(atlas, "a 16", "a 17");
        Check.refused("line 0 at fault", IllegalArgumentException.class, () -> atlas.assemble(0));
        Check.due("fault() of line 0", atlas.fault(), 0);
    }

    private static void everyFieldComesBack() {
        for (int b = 0; b < 256; b++) {
            if ((b & 16) == 0) {
                continue;
            }
            OpcodeAtlas atlas = Check.ready("a xyx1yxzz");
            atlas.operand(0, 0, 1, 5, 7);
            atlas.operand(0, 1, 2, 3, -2);
            atlas.operand(0, 2, 0, 1, -100);
            atlas.poke(40, b);
            atlas.write(40);
            Check.program(atlas, Check.writtenText(atlas));
            atlas.poke(40, 0);
            Check.due("assemble() of what was written", atlas.assemble(40), 1);
            Check.due("the byte that comes back", atlas.peek(40), b);
        }
    }
}
