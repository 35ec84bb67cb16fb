/** Promise 5 (test). */
public final class ClashTest {
    public static void main(String[] args) {
        Check.due("test() of no forms", new OpcodeAtlas().test(), 0);
        pair("00000000", "00000001", false);
        pair("00000000", "00000000", true);
        pair("0000xxxx", "00000001", false);
        pair("00000001", "0000xxxx", false);
        pair("0000xxx1", "00001xxx", true);
        pair("x0000001", "0000000x", true);
        pair("1xxxxxxx", "0xxxxxxx", false);
        pair("xxxxxxxx", "xxxxxxxxxxxxxxxx", false);
        pair("xxxxxxxx", "xxxxxxxxyyyyyyyy", false);
        pair("xxxxxxxx", "yyyyyyyx", true);
        pair("00000001", "00000001xxxxxxxx", false);
        pair("00000001", "0000000x00000000", true);
        pair("0000xxxx", "0000xxxx00000000", false);
        pair("xxxxxxxx00000000", "11111111", true);
        pair("xxxxxxxx00000000", "11111111xxxxxxx0", true);
        pair("xxxxxxxx0000000000000000", "xxxxxxxx0000000000000001", false);
        pair("xxxxxxxx00000000yyyyyyyy", "xxxxxxxx00000000", false);
        pair("0000000x", "000000000000000x", false);
        firstPairCounts();
        laterPairs();
        clashMakesUnready();
        Check.finish();
    }

    private static void pair(String one, String other, boolean clash) {
        OpcodeAtlas atlas = new OpcodeAtlas();
        Check.form(atlas, "a " + one);
        Check.form(atlas, "b " + other);
        Check.due("test() of " + one + " and " + other, atlas.test(), clash ? 2 : 0);
        Check.due("count(2) then", atlas.count(2), clash ? 0 : 1);
    }

    private static void firstPairCounts() {
        OpcodeAtlas atlas = new OpcodeAtlas();
        for (String text : new String[] {"a 1xxxxxxx", "b 0000000x", "c 010xxxxx", "d x10xxxxx", "e 0000000x"}) {
            Check.form(atlas, text);
        }
        Check.due("the first pair by i, then by j", atlas.test(), 1 + 16 * 0 + 3);
    }

    private static void laterPairs() {
        for (int i = 0; i < 12; i++) {
            for (int j = i + 1; j < 12; j++) {
                OpcodeAtlas atlas = new OpcodeAtlas();
                for (int k = 0; k < 12; k++) {
                    int sign = k == j ? i : k;
                    String bits = Integer.toBinaryString(256 + sign).substring(1);
                    Check.form(atlas, (char) ('a' + k) + " " + bits);
                }
                Check.due("test() with " + i + " like " + j, atlas.test(), 1 + 16 * i + j);
            }
        }
    }

    private static void clashMakesUnready() {
        OpcodeAtlas atlas = Check.ready("a 00000000");
        Check.form(atlas, "b 00000000");
        Check.due("test() of a clash", atlas.test(), 2);
        Check.due("test() of a clash, again", atlas.test(), 2);
        Check.due("count(2) after a clash", atlas.count(2), 0);
        Check.refused("decode() after a clash", IllegalStateException.class, () -> atlas.decode(0));
        Check.refused("value() after a clash", IllegalStateException.class, () -> atlas.value(0, 0));
        Check.refused("write() after a clash", IllegalStateException.class, () -> atlas.write(0));
        Check.refused("assemble() after a clash", IllegalStateException.class, () -> atlas.assemble(0));
    }
}
