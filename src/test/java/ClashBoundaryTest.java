/** The sentences of Terms (narrower, clash, ready) and of promise 5 that name a boundary, a test for each. */
public final class ClashBoundaryTest {
    public static void main(String[] args) {
        Check.sentence("all fixed bits of j are fixed in i, too", ClashBoundaryTest::allFixedToo);
        Check.sentence("and alike", ClashBoundaryTest::alike);
        Check.sentence("and i has more fixed bits", ClashBoundaryTest::moreFixedBits);
        Check.sentence("or as many and more bytes", ClashBoundaryTest::asManyAndMoreBytes);
        Check.sentence("Two forms CLASH if no bit is fixed in both and not alike", ClashBoundaryTest::noBitApart);
        Check.sentence("CLASH if .. neither is narrower", ClashBoundaryTest::neitherNarrower);
        Check.sentence("READY when this was tested", ClashBoundaryTest::readyWhenTested);
        Check.sentence("READY when .. no two clash", ClashBoundaryTest::readyWhenNoClash);
        Check.sentence("a new form makes it unready", ClashBoundaryTest::newForm);
        Check.sentence("Tests all pairs of forms i < j", ClashBoundaryTest::allPairs);
        Check.sentence("by i, then by j .. for the first that do", ClashBoundaryTest::firstPair);
        Check.sentence("0 when none clash (the atlas is ready then)", ClashBoundaryTest::noneClash);
        Check.sentence("otherwise .. 1 + 16 * i + j (it isn't ready then)", ClashBoundaryTest::someClash);
        Check.finish();
    }

    /** The test of a pair in both orders, since a clash has none. */
    private static void pair(String one, String other, boolean clash) {
        for (int turn = 0; turn < 2; turn++) {
            OpcodeAtlas atlas = new OpcodeAtlas();
            Check.form(atlas, "a " + (turn == 0 ? one : other));
            Check.form(atlas, "b " + (turn == 0 ? other : one));
            Check.due("test() of " + one + " and " + other + ", turn " + turn, atlas.test(), clash ? 2 : 0);
        }
    }

    private static void allFixedToo() {
        pair("0000000x", "00000000", false);
        pair("0000000x", "x0000000", true);
        pair("0000000x", "x000000000000000", true);
        pair("xxxxxxxxxxxxxxx1", "00000000", true);
        pair("xxxxxxxxxxxxxxx1", "000000000000000x", true);
        pair("0xxxxxxx", "x0000000", true);
        pair("xxxxxxxx11111111yyyyyyy0", "xxxxxxxx11111111", false);
    }

    private static void alike() {
        // Apart in one bit, so that neither can be meant for the other, whatever else is fixed.
        for (int k = 0; k < 24; k++) {
            String zeros = "0".repeat(24);
            String one = "0".repeat(k) + "1" + "0".repeat(23 - k);
            pair(zeros, one, false);
            pair(zeros, zeros, true);
            pair(one, one, true);
        }
        // A narrower form is taken only where its own bits stand.
        OpcodeAtlas atlas = Check.ready("a 0000xxxx", "b 00001111", "c 1xxxxxxx");
        atlas.poke(0, 14);
        Check.due("decode() of a", atlas.decode(0), 0);
        atlas.poke(0, 15);
        Check.due("decode() of b", atlas.decode(0), 1);
    }

    private static void moreFixedBits() {
        for (int fixed = 0; fixed < 8; fixed++) {
            String less = "0".repeat(fixed) + "x".repeat(8 - fixed);
            String more = "0".repeat(fixed + 1) + "x".repeat(7 - fixed);
            pair(less, more, false);
            pair(less, less, true);
            // More fixed bits count even in fewer bytes.
            pair(less + "xxxxxxxx", more, false);
            pair(less + "yyyyyyyyxxxxxxxx", more, false);
        }
        OpcodeAtlas atlas = Check.ready("a 0000xxxxxxxxxxxx", "b 00000xxx");
        Check.due("decode() of one byte with more fixed bits", atlas.decode(0), 1);
        atlas.poke(0, 8);
        Check.due("decode() of two bytes", atlas.decode(0), 0);
    }

    private static void asManyAndMoreBytes() {
        pair("0000000x", "0000000xyyyyyyyy", false);
        pair("0000000x", "0000000xyyyyyyyyzzzzzzzz", false);
        pair("0000000xyyyyyyyy", "0000000xyyyyyyyyzzzzzzzz", false);
        pair("0000000xyyyyyyyy", "0000000xxxxxxxxx", true);
        pair("xxxxxxxx", "xxxxxxxxyyyyyyyy", false);
        pair("xxxxxxxx", "yyyyyyyx", true);
        pair("00000000", "0000000xxxxxxxx0", true);
        OpcodeAtlas atlas = Check.ready("a 00000000", "b 00000000xxxxxxxx", "c 00000000xxxxxxxxyyyyyyyy");
        Check.due("three bytes", atlas.decode(61), 2);
        Check.due("two bytes", atlas.decode(62), 1);
        Check.due("one byte", atlas.decode(63), 0);
    }

    private static void noBitApart() {
        pair("1xxxxxx0", "1xxxxx00", false);
        pair("1xxxxx0x", "1xxxxxx0", true);
        pair("1xxxxx0x", "0xxxxxx0", false);
        pair("xxxxxxx0yyyyyyyy", "xxxxxxx111111111", false);
        pair("xxxxxxxx0yyyyyyy", "11111111", true);
        pair("xxxxxxxxyyyyyyyyyyyyyyy0", "xxxxxxxxyyyyyyyyzzzzzzz1", false);
        pair("0xxxxxxxyyyyyyyyyyyyyyy0", "xxxxxxx0", true);
    }

    private static void neitherNarrower() {
        pair("00xxxxxx", "0x0xxxxx", true);
        pair("00xxxxxx", "000xxxxx", false);
        pair("00xxxxxx", "00xxxxxxxxxxxxxx", false);
        pair("00xxxxxx", "00yyyyyx", true);
        pair("00xxxxxxxxxxxxxx", "000xxxxx", false);
        pair("00xxxxxxxxxxxxx0", "000xxxxx", true);
    }

    private static void readyWhenTested() {
        OpcodeAtlas atlas = new OpcodeAtlas();
        Check.form(atlas, "a 00000000");
        Check.due("not tested yet", atlas.count(2), 0);
        Check.refused("decode(0)", IllegalStateException.class, () -> atlas.decode(0));
        atlas.test();
        Check.due("tested", atlas.count(2), 1);
        Check.due("decode(0)", atlas.decode(0), 0);
    }

    private static void readyWhenNoClash() {
        OpcodeAtlas atlas = new OpcodeAtlas();
        Check.form(atlas, "a 00000000");
        Check.form(atlas, "b 00000000");
        atlas.test();
        Check.due("tested, but two clash", atlas.count(2), 0);
        Check.refused("decode(0)", IllegalStateException.class, () -> atlas.decode(0));
        Check.refused("value(0, 0)", IllegalStateException.class, () -> atlas.value(0, 0));
        Check.refused("write(0)", IllegalStateException.class, () -> atlas.write(0));
        Check.refused("assemble(0)", IllegalStateException.class, () -> atlas.assemble(0));
    }

    private static void newForm() {
        OpcodeAtlas atlas = Check.ready("a 00000000");
        Check.form(atlas, "b 00000001");
        Check.due("after a new form", atlas.count(2), 0);
        atlas.test();
        Check.due("tested again", atlas.count(2), 1);
        Check.refused("no new form: the same name", IllegalStateException.class, () -> Check.form(atlas, "b 00000010"));
        Check.due("after a form that was refused", atlas.count(2), 1);
        Check.refused("no new form: a wrong text", IllegalArgumentException.class, () -> Check.form(atlas, "c"));
        Check.due("after a text that tells none", atlas.count(2), 1);
        Check.form(atlas, "c 0000001x");
        atlas.test();
        atlas.operand(2, 0, 2, 8, 100);
        Check.line(atlas, "a");
        atlas.assemble(0);
        atlas.erase();
        atlas.poke(0, 1);
        atlas.type('a');
        Check.due("after all other calls", atlas.count(2), 1);
    }

    private static void allPairs() {
        for (int i = 0; i < 12; i++) {
            for (int j = i + 1; j < 12; j++) {
                OpcodeAtlas atlas = new OpcodeAtlas();
                for (int k = 0; k < 12; k++) {
                    Check.form(atlas, (char) ('a' + k) + " " + code(k == j ? i : k) + "0000");
                }
                Check.due("test() where " + i + " and " + j + " clash", atlas.test(), 1 + 16 * i + j);
                Check.due("ready", atlas.count(2), 0);
            }
        }
    }

    private static String code(int number) {
        return Integer.toBinaryString(16 + number).substring(1);
    }

    private static int tested(String... signs) {
        OpcodeAtlas atlas = new OpcodeAtlas();
        for (int i = 0; i < signs.length; i++) {
            Check.form(atlas, (char) ('a' + i) + " " + signs[i]);
        }
        return atlas.test();
    }

    private static void firstPair() {
        Check.due("0 and 3 before 1 and 2", tested("00000000", "11111111", "11111111", "00000000"), 1 + 3);
        Check.due("0 and 2 before 0 and 3", tested("00000000", "11111111", "00000000", "00000000"), 1 + 2);
        Check.due("2 and 4, since 3 is narrower than 1",
            tested("1xxxxxxx", "000xxxxx", "001xxxxx", "00000yyx", "001yyyyx"), 1 + 16 * 2 + 4);
        Check.due("1 and 4 before 2 and 3", tested("1xxxxxxx", "000xxxxx", "001xxxxx", "001yyyyx", "000yyyyx"),
            1 + 16 + 4);
    }

    private static void noneClash() {
        Check.due("test() of no forms", new OpcodeAtlas().test(), 0);
        Check.due("test() of one form", tested("xxxxxxxx"), 0);
        OpcodeAtlas atlas = new OpcodeAtlas();
        for (int i = 0; i < 12; i++) {
            Check.form(atlas, (char) ('a' + i) + " " + code(i) + "xxxx");
        }
        Check.due("test() of twelve", atlas.test(), 0);
        Check.due("ready", atlas.count(2), 1);
        Check.due("test() again", atlas.test(), 0);
        Check.due("still ready", atlas.count(2), 1);
    }

    private static void someClash() {
        Check.due("the least answer", tested("00000000", "00000000"), 2);
        String[] signs = new String[12];
        for (int i = 0; i < 12; i++) {
            signs[i] = code(Math.min(i, 10)) + "0000";
        }
        Check.due("the greatest answer", tested(signs), 1 + 16 * 10 + 11);
        OpcodeAtlas atlas = Check.ready("a 00000000");
        Check.form(atlas, "b 00000000");
        Check.due("test()", atlas.test(), 2);
        Check.due("not ready", atlas.count(2), 0);
        Check.due("test() again", atlas.test(), 2);
        Check.due("still not ready", atlas.count(2), 0);
    }
}
