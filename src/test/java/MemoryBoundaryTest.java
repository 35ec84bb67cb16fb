/** The sentences of Terms (memory) and of promises 6 and 7 that name a boundary, a test for each. */
public final class MemoryBoundaryTest {
    private static final int[] NO_ADDRESSES =
        {-1, 64, -2, 65, -64, 128, 256, Integer.MIN_VALUE, Integer.MIN_VALUE + 63, Integer.MAX_VALUE};

    public static void main(String[] args) {
        Check.sentence("MEMORY has 64 bytes", MemoryBoundaryTest::has64Bytes);
        Check.sentence("all 0 at first", MemoryBoundaryTest::zeroAtFirst);
        Check.sentence("A byte of the memory becomes b mod 256", MemoryBoundaryTest::becomes);
        Check.sentence("the one that was there", MemoryBoundaryTest::theOneThatWasThere);
        Check.sentence("poke(): Throws IndexOutOfBoundsException when there is no such address",
            MemoryBoundaryTest::pokeNowhere);
        Check.sentence("A byte of the memory, as 0 .. 255", MemoryBoundaryTest::from0To255);
        Check.sentence("peek(): Throws likewise", MemoryBoundaryTest::peekNowhere);
        Check.finish();
    }

    private static void has64Bytes() {
        for (int address = 0; address < 64; address++) {
            OpcodeAtlas atlas = new OpcodeAtlas();
            atlas.poke(address, 200);
            for (int other = 0; other < 64; other++) {
                Check.due("peek(" + other + ") after poke(" + address + ")", atlas.peek(other),
                    other == address ? 200 : 0);
            }
        }
    }

    private static void zeroAtFirst() {
        OpcodeAtlas atlas = new OpcodeAtlas();
        for (int address = 0; address < 64; address++) {
            Check.due("peek(" + address + ")", atlas.peek(address), 0);
            Check.due("poke(" + address + ")", atlas.poke(address, 0), 0);
        }
    }

    private static void becomes() {
        int[] numbers = {0, 1, 127, 128, 254, 255, 256, 257, 511, 512, 65535, 65536, Integer.MAX_VALUE,
            -1, -2, -127, -128, -129, -255, -256, -257, -512, Integer.MIN_VALUE, Integer.MIN_VALUE + 1};
        for (int number : numbers) {
            for (int address = 0; address < 64; address += 63) {
                OpcodeAtlas atlas = new OpcodeAtlas();
                atlas.poke(address, number);
                Check.due("the byte for " + number, atlas.peek(address), Math.floorMod(number, 256));
            }
        }
    }

    private static void theOneThatWasThere() {
        OpcodeAtlas atlas = new OpcodeAtlas();
        int[][] steps = {{255, 0}, {0, 255}, {-1, 0}, {256, 255}, {128, 0}, {128, 128}, {1, 128}, {1, 1}};
        for (int[] step : steps) {
            Check.due("poke(63, " + step[0] + ")", atlas.poke(63, step[0]), step[1]);
        }
    }

    private static void pokeNowhere() {
        OpcodeAtlas atlas = new OpcodeAtlas();
        for (int address : NO_ADDRESSES) {
            Check.refused("poke(" + address + ", 9)", IndexOutOfBoundsException.class, () -> atlas.poke(address, 9));
        }
        for (int address = 0; address < 64; address++) {
            Check.due("peek(" + address + ") after them", atlas.peek(address), 0);
        }
        Check.due("poke(0, 1)", atlas.poke(0, 1), 0);
        Check.due("poke(63, 1)", atlas.poke(63, 1), 0);
    }

    private static void from0To255() {
        for (int number = -256; number < 512; number++) {
            OpcodeAtlas atlas = new OpcodeAtlas();
            atlas.poke(7, number);
            Check.due("peek(7) after " + number, atlas.peek(7), number & 255);
        }
    }

    private static void peekNowhere() {
        OpcodeAtlas atlas = new OpcodeAtlas();
        for (int address : NO_ADDRESSES) {
            Check.refused("peek(" + address + ")", IndexOutOfBoundsException.class, () -> atlas.peek(address));
        }
        Check.due("peek(0)", atlas.peek(0), 0);
        Check.due("peek(63)", atlas.peek(63), 0);
    }
}
