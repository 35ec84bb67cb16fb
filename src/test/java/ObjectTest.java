/** Promises 1 (a new object), 2 (type) and 16 (count). */
public final class ObjectTest {
    public static void main(String[] args) {
        newObject();
        typing();
        counting();
        Check.finish();
    }

    private static void newObject() {
        OpcodeAtlas atlas = new OpcodeAtlas();
        for (int what = 0; what < 4; what++) {
            Check.due("count(" + what + ") of a new object", atlas.count(what), 0);
        }
        Check.due("fault() of a new object", atlas.fault(), -1);
        Check.due("written(0) of a new object", atlas.written(0), 0);
        Check.due("erase() of a new object", atlas.erase(), 0);
        for (int address = 0; address < 64; address++) {
            Check.due("peek(" + address + ") of a new object", atlas.peek(address), 0);
        }
        Check.refused("decode(0) of a new object", IllegalStateException.class, () -> atlas.decode(0));
        Check.refused("assemble(0) of a new object", IllegalStateException.class, () -> atlas.assemble(0));
        Check.refused("form() of a new object", IllegalArgumentException.class, atlas::form);
        Check.refused("line() of a new object", IllegalArgumentException.class, atlas::line);
    }

    private static void typing() {
        OpcodeAtlas atlas = new OpcodeAtlas();
        for (int i = 1; i <= 40; i++) {
            Check.due("type() number " + i, atlas.type('A'), i);
        }
        Check.due("type() number 41", atlas.type('A'), -1);
        Check.due("type() number 42", atlas.type((char) 0), -1);
        Check.due("count(3) of a full text", atlas.count(3), 40);
        Check.refused("line() of a full text", IllegalArgumentException.class, atlas::line);
        Check.due("count(3) after line() threw", atlas.count(3), 0);
        Check.due("type() after line() threw", atlas.type('A'), 1);
        Check.refused("form() of A", IllegalArgumentException.class, atlas::form);
        Check.due("count(3) after form() threw", atlas.count(3), 0);
        char[] odd = {0, 255, 256, 0x161, 0xffff, '\n'};
        for (int i = 0; i < odd.length; i++) {
            Check.due("type() of an odd character", atlas.type(odd[i]), i + 1);
        }
        Check.refused("form() of odd characters", IllegalArgumentException.class, atlas::form);
    }

    private static void counting() {
        OpcodeAtlas atlas = new OpcodeAtlas();
        Check.due("form()", Check.form(atlas, "a 00000000"), 0);
        Check.due("count(3) after form()", atlas.count(3), 0);
        Check.form(atlas, "b 00000001");
        Check.line(atlas, "A:");
        Check.due("count(3) after line()", atlas.count(3), 0);
        Check.line(atlas, "a");
        Check.line(atlas, "b");
        Check.type(atlas, "wxyz");
        Check.due("count(0)", atlas.count(0), 2);
        Check.due("count(1)", atlas.count(1), 3);
        Check.due("count(2) before test()", atlas.count(2), 0);
        Check.due("count(3)", atlas.count(3), 4);
        Check.due("test()", atlas.test(), 0);
        Check.due("count(2) after test()", atlas.count(2), 1);
        for (int what : new int[] {-1, 4, Integer.MIN_VALUE, Integer.MAX_VALUE}) {
            Check.due("count(" + what + ")", atlas.count(what), -1);
        }
    }
}
