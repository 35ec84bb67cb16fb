import java.util.NoSuchElementException;
import java.util.function.ToLongFunction;

/**
 * "what takes it empties it, also when it throws. What throws changes nothing else.": two objects get the same calls,
 * one of them a call more that throws, and all that they answer afterwards is compared.
 */
public final class RefusalBoundaryTest {
    private static final Class<IllegalArgumentException> ARGUMENT = IllegalArgumentException.class;
    private static final Class<IllegalStateException> STATE = IllegalStateException.class;
    private static final Class<IndexOutOfBoundsException> INDEX = IndexOutOfBoundsException.class;
    private static final Class<NoSuchElementException> ELEMENT = NoSuchElementException.class;

    public static void main(String[] args) {
        Check.sentence("what takes it empties it", RefusalBoundaryTest::takingEmpties);
        Check.sentence("what takes it empties it, also when it throws", RefusalBoundaryTest::throwingEmpties);
        Check.sentence("what does not take the text leaves it", RefusalBoundaryTest::othersLeaveText);
        Check.sentence("What throws changes nothing else: form()", RefusalBoundaryTest::formThrows);
        Check.sentence("What throws changes nothing else: operand()", RefusalBoundaryTest::operandThrows);
        Check.sentence("What throws changes nothing else: poke(), peek()", RefusalBoundaryTest::memoryThrows);
        Check.sentence("What throws changes nothing else: decode(), value(), write()",
            RefusalBoundaryTest::decodeThrows);
        Check.sentence("What throws changes nothing else: line()", RefusalBoundaryTest::lineThrows);
        Check.sentence("What throws changes nothing else: assemble()", RefusalBoundaryTest::assembleThrows);
        Check.finish();
    }

    /** An object with something in every part of its state, and ready. */
    private static OpcodeAtlas used() {
        OpcodeAtlas atlas = Check.ready("a 0000xxxx", "b 0001xxyyyyyyyyyy", "c 001zyyxx");
        atlas.operand(0, 0, 1, 2, 3);
        atlas.operand(1, 1, 2, 1, -5);
        atlas.operand(2, 2, 0, 8, 100);
        for (int address = 0; address < 12; address++) {
            atlas.poke(address, 5 * address + 2);
        }
        Check.program(atlas, "A:", "a 2");
        Check.refused("the fault of line 1", ARGUMENT, () -> atlas.assemble(0));
        Check.program(atlas, "A:a 3", "b 1,A", "B:c 1,2,108");
        atlas.write(6);
        return atlas;
    }

    private static OpcodeAtlas unready() {
        OpcodeAtlas atlas = used();
        Check.form(atlas, "d 11111111");
        return atlas;
    }

    private static OpcodeAtlas withForms(int count) {
        OpcodeAtlas atlas = new OpcodeAtlas();
        for (int i = 0; i < count; i++) {
            Check.form(atlas, (char) ('a' + i) + " " + Integer.toBinaryString(16 + i).substring(1) + "xxxx");
        }
        atlas.test();
        return atlas;
    }

    private static OpcodeAtlas withLines(int count) {
        OpcodeAtlas atlas = Check.ready("a 0000xxxx");
        for (int i = 0; i < count; i++) {
            Check.line(atlas, i == 0 ? "A:a A" : "a 1");
        }
        return atlas;
    }

    /** All that an object answers, in some 300 calls: the last ones change it, so nothing is asked of it then. */
    private static String state(OpcodeAtlas atlas) {
        StringBuilder all = new StringBuilder("fault ").append(atlas.fault());
        for (int what = 0; what < 4; what++) {
            all.append(", count ").append(atlas.count(what));
        }
        all.append(", written ").append(Check.writtenText(atlas)).append(", memory");
        for (int address = 0; address < 64; address++) {
            all.append(' ').append(atlas.peek(address));
        }
        all.append(", text ").append(Check.answer(atlas::line)).append(", test ").append(atlas.test());
        for (int address = 0; address < 14; address++) {
            int at = address;
            all.append("; ").append(Check.answer(() -> atlas.decode(at)));
            for (int operand = 0; operand < 3; operand++) {
                int asked = operand;
                all.append(' ').append(Check.answer(() -> atlas.value(at, asked)));
            }
        }
        all.append(", put ").append(Check.answer(() -> atlas.assemble(20))).append(':');
        for (int address = 20; address < 60; address++) {
            all.append(' ').append(atlas.peek(address));
        }
        return all.append(", lines ").append(atlas.erase()).append(", fault ").append(atlas.fault()).toString();
    }

    private interface Maker {
        OpcodeAtlas make();
    }

    /** A call that takes no text: a line typed before it must still be there. */
    private static void keeps(String what, Maker maker, Class<? extends RuntimeException> want,
            ToLongFunction<OpcodeAtlas> call) {
        OpcodeAtlas left = maker.make();
        OpcodeAtlas right = maker.make();
        Check.type(left, "F:a 1");
        Check.type(right, "F:a 1");
        Check.refused(what, want, () -> call.applyAsLong(right));
        Check.due("the state after " + what, state(right), state(left));
    }

    private static void keepsForm(Maker maker, Class<? extends RuntimeException> want, String text) {
        OpcodeAtlas right = maker.make();
        Check.refused("form() of '" + text + "'", want, () -> Check.form(right, text));
        Check.due("the state after form() of '" + text + "'", state(right), state(maker.make()));
    }

    private static void keepsLine(Maker maker, Class<? extends RuntimeException> want, String text) {
        OpcodeAtlas right = maker.make();
        Check.refused("line() of '" + text + "'", want, () -> Check.line(right, text));
        Check.due("the state after line() of '" + text + "'", state(right), state(maker.make()));
    }

    private static void takingEmpties() {
        OpcodeAtlas atlas = new OpcodeAtlas();
        Check.form(atlas, "a 00000000");
        Check.due("the text after form()", atlas.count(3), 0);
        Check.due("type() after form()", atlas.type('b'), 1);
        atlas.line();
        Check.due("the text after line()", atlas.count(3), 0);
        Check.due("type() after line()", atlas.type('b'), 1);
    }

    private static void emptied(OpcodeAtlas atlas, Class<? extends RuntimeException> want, String text,
            Check.Call call) {
        Check.type(atlas, text);
        Check.refused("a call with '" + text + "'", want, call);
        Check.due("the text after '" + text + "'", atlas.count(3), 0);
        Check.due("type() after '" + text + "'", atlas.type('a'), 1);
    }

    private static void throwingEmpties() {
        for (String text : new String[] {"", "a", "a 0000000", "a 0000000?", "a z0000000", "q".repeat(40)}) {
            OpcodeAtlas atlas = used();
            emptied(atlas, ARGUMENT, text, atlas::form);
        }
        OpcodeAtlas same = used();
        emptied(same, STATE, "a 0000000x", same::form);
        OpcodeAtlas twelve = withForms(12);
        emptied(twelve, STATE, "m 00000000", twelve::form);
        for (String text : new String[] {"", "a ", "a 1,", "A:b", "B:", "q".repeat(40)}) {
            OpcodeAtlas atlas = used();
            emptied(atlas, ARGUMENT, text, atlas::line);
        }
        OpcodeAtlas full = withLines(20);
        emptied(full, STATE, "a 1", full::line);
    }

    private static void othersLeaveText() {
        OpcodeAtlas atlas = used();
        Check.type(atlas, "C:a 5");
        atlas.operand(0, 0, 1, 2, 3);
        atlas.test();
        atlas.poke(0, 1);
        atlas.peek(0);
        atlas.decode(0);
        atlas.value(0, 0);
        atlas.write(0);
        atlas.written(0);
        atlas.erase();
        atlas.assemble(0);
        atlas.fault();
        atlas.count(3);
        Check.due("the text after all others", atlas.count(3), 5);
        Check.due("it as a line", atlas.line(), 1);
        Check.due("its byte", atlas.assemble(0), 1);
        Check.due("its operand", atlas.value(0, 0), 5);
    }

    private static void formThrows() {
        String[] wrong = {"", "d", "d ", "d 0000000", "d 1111111?", "d zyx11111 ", "d 0000000y", "d x0000z00",
            "ddddd 11111111", "d xxxxxxxxxxxxxxxxx0000000", "D 11111111", "q".repeat(41)};
        for (String text : wrong) {
            keepsForm(RefusalBoundaryTest::used, ARGUMENT, text);
            keepsForm(RefusalBoundaryTest::unready, ARGUMENT, text);
            keepsForm(() -> withForms(12), ARGUMENT, text);
        }
        for (String text : new String[] {"a 1111111x", "b 1xy11111", "c 11111xyz11111111"}) {
            keepsForm(RefusalBoundaryTest::used, STATE, text);
            keepsForm(RefusalBoundaryTest::unready, STATE, text);
        }
        for (String text : new String[] {"m 11111111", "l 1111111x", "a 1111111x"}) {
            keepsForm(() -> withForms(12), STATE, text);
        }
        // Nothing of a refused text may be found in the form that is told next.
        OpcodeAtlas atlas = used();
        Check.refused("a refused form", ARGUMENT, () -> Check.form(atlas, "d 1111111?"));
        Check.refused("another one", ARGUMENT, () -> Check.form(atlas, "d 1111xyzxxyzxyzxyz111111?"));
        Check.due("the next form", Check.form(atlas, "d 1111000x"), 3);
        Check.due("its bits", atlas.operand(3, 0, 0, 1, 0), 1);
        Check.refused("its second operand", ARGUMENT, () -> atlas.operand(3, 1, 0, 1, 0));
        atlas.test();
        Check.program(atlas, "d 1");
        Check.due("its bytes", atlas.assemble(0), 1);
        Check.due("its byte", atlas.peek(0), 0xf1);
    }

    private static void operandThrows() {
        int[][] wrong = {{-1, 0, 0, 1, 0}, {3, 0, 0, 1, 0}, {12, 0, 0, 1, 0}, {0, -1, 0, 1, 0}, {0, 1, 0, 1, 0},
            {1, 2, 0, 1, 0}, {2, 3, 0, 1, 0}, {0, 0, -1, 1, 0}, {0, 0, 3, 1, 0}, {0, 0, 0, 0, 0}, {0, 0, 0, 9, 0},
            {0, 0, 0, 1, -101}, {0, 0, 0, 1, 101}, {1, 1, 0, 9, 7}, {1, 1, 1, 7, 101}, {2, 2, 3, 7, 7}};
        for (int[] w : wrong) {
            keeps("operand" + java.util.Arrays.toString(w), RefusalBoundaryTest::used, ARGUMENT,
                atlas -> atlas.operand(w[0], w[1], w[2], w[3], w[4]));
        }
    }

    private static void memoryThrows() {
        for (int address : new int[] {-1, 64, Integer.MIN_VALUE, Integer.MAX_VALUE}) {
            keeps("poke(" + address + ")", RefusalBoundaryTest::used, INDEX, atlas -> atlas.poke(address, 99));
            keeps("peek(" + address + ")", RefusalBoundaryTest::used, INDEX, atlas -> atlas.peek(address));
        }
    }

    private static void decodeThrows() {
        for (int address : new int[] {-1, 64, Integer.MIN_VALUE, Integer.MAX_VALUE}) {
            keeps("decode(" + address + ")", RefusalBoundaryTest::used, INDEX, atlas -> atlas.decode(address));
            keeps("value(" + address + ", 0)", RefusalBoundaryTest::used, INDEX, atlas -> atlas.value(address, 0));
            keeps("write(" + address + ")", RefusalBoundaryTest::used, INDEX, atlas -> atlas.write(address));
        }
        keeps("value(0, 1)", RefusalBoundaryTest::used, INDEX, atlas -> atlas.value(0, 1));
        keeps("value(0, -1)", RefusalBoundaryTest::used, INDEX, atlas -> atlas.value(0, -1));
        for (int address : new int[] {0, 63, 64, -1}) {
            keeps("unready decode()", RefusalBoundaryTest::unready, STATE, atlas -> atlas.decode(address));
            keeps("unready value()", RefusalBoundaryTest::unready, STATE, atlas -> atlas.value(address, 0));
            keeps("unready write()", RefusalBoundaryTest::unready, STATE, atlas -> atlas.write(address));
        }
    }

    private static void lineThrows() {
        for (String text : new String[] {"", "C", "C:a 1,", "a 1,2,3,4", "A:", "B:a 7", "A:zz F", "q".repeat(41)}) {
            keepsLine(RefusalBoundaryTest::used, ARGUMENT, text);
            keepsLine(RefusalBoundaryTest::unready, ARGUMENT, text);
        }
        for (String text : new String[] {"a 1", "B:", "C:zz F"}) {
            keepsLine(() -> withLines(20), STATE, text);
        }
        for (String text : new String[] {"", "A:", "a 1,"}) {
            keepsLine(() -> withLines(20), ARGUMENT, text);
        }
        // Nothing of a refused text may be found in the line that is told next.
        OpcodeAtlas atlas = used();
        atlas.erase();
        Check.refused("a refused line", ARGUMENT, () -> Check.line(atlas, "C:zzzz F,F,F,"));
        Check.due("the next line", Check.line(atlas, "D:"), 1);
        Check.due("the label of the refused one", Check.line(atlas, "C:a 5"), 2);
        Check.due("their bytes", atlas.assemble(0), 1);
        Check.due("their value", atlas.value(0, 0), 5);
    }

    private static void assembleThrows() {
        for (int origin : new int[] {-1, 64, 61, 63, Integer.MIN_VALUE, Integer.MAX_VALUE}) {
            keeps("assemble(" + origin + ")", RefusalBoundaryTest::used, INDEX, atlas -> atlas.assemble(origin));
            keeps("unready assemble()", RefusalBoundaryTest::unready, STATE, atlas -> atlas.assemble(origin));
        }
        // These set fault(), to the line 1 that it is already, and nothing else.
        keeps("no form", () -> with("a 3", "zz", "a 5"), ELEMENT, atlas -> atlas.assemble(0));
        keeps("no label", () -> with("a 3", "b 1,E", "a 5"), ELEMENT, atlas -> atlas.assemble(0));
        keeps("no field", () -> with("a 3", "a 99", "a 5"), ARGUMENT, atlas -> atlas.assemble(0));
        keeps("no field in y", () -> with("a 3", "c 1,99,100", "a 5"), ARGUMENT, atlas -> atlas.assemble(0));
    }

    private static OpcodeAtlas with(String... texts) {
        OpcodeAtlas atlas = used();
        Check.program(atlas, texts);
        return atlas;
    }
}
