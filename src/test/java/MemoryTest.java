/** Promises 6 (poke) and 7 (peek). */
public final class MemoryTest {
    private static final int[] NO_ADDRESSES = {-1, 64, 65, -64, Integer.MIN_VALUE, Integer.MAX_VALUE};

    public static void main(String[] args) {
        OpcodeAtlas atlas = new OpcodeAtlas();
        for (int address = 0; address < 64; address++) {
            Check.due("poke(" + address + ")", atlas.poke(address, address * 3 + 1), 0);
        }
        for (int address = 0; address < 64; address++) {
            Check.due("peek(" + address + ")", atlas.peek(address), address * 3 + 1);
            Check.due("peek(" + address + ") again", atlas.peek(address), address * 3 + 1);
        }
        int[][] rests = {{255, 255}, {256, 0}, {-1, 255}, {-255, 1}, {-256, 0}, {-257, 255}, {1000, 232},
            {Integer.MIN_VALUE, 0}, {Integer.MAX_VALUE, 255}, {Integer.MIN_VALUE + 1, 1}};
        int before = atlas.peek(63);
        for (int[] rest : rests) {
            Check.due("poke(63, " + rest[0] + ")", atlas.poke(63, rest[0]), before);
            before = rest[1];
            Check.due("peek(63) after poke(63, " + rest[0] + ")", atlas.peek(63), before);
        }
        for (int address : NO_ADDRESSES) {
            Check.refused("poke(" + address + ")", IndexOutOfBoundsException.class, () -> atlas.poke(address, 1));
            Check.refused("peek(" + address + ")", IndexOutOfBoundsException.class, () -> atlas.peek(address));
        }
        Check.finish();
    }
}
