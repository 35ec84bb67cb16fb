/** The sentences of Terms (text) and of promises 1, 2 and 16 that name a boundary, a test for each. */
public final class TextBoundaryTest {
    private static final int[] NO_COUNTS = {-1, 4, 5, -2, 256, 257, 259, Integer.MIN_VALUE, Integer.MAX_VALUE};

    public static void main(String[] args) {
        Check.sentence("OpcodeAtlas(): No forms", TextBoundaryTest::noForms);
        Check.sentence("OpcodeAtlas(): no lines", TextBoundaryTest::noLines);
        Check.sentence("OpcodeAtlas(): an empty text", TextBoundaryTest::emptyText);
        Check.sentence("OpcodeAtlas(): not ready", TextBoundaryTest::notReady);
        Check.sentence("An object is used for at most 512 calls", TextBoundaryTest::all512Calls);
        Check.sentence("Two objects share nothing", TextBoundaryTest::nothingShared);
        Check.sentence("Types a character.", TextBoundaryTest::anyCharacter);
        Check.sentence("How many the text has", TextBoundaryTest::howMany);
        Check.sentence("-1 when it has 40", TextBoundaryTest::fullText);
        Check.sentence("TEXT is typed, at most 40 characters", TextBoundaryTest::atMost40);
        Check.sentence("0 the forms", TextBoundaryTest::countForms);
        Check.sentence("1 the lines", TextBoundaryTest::countLines);
        Check.sentence("2 whether the atlas is ready (1 or 0)", TextBoundaryTest::countReady);
        Check.sentence("3 the characters of the text", TextBoundaryTest::countText);
        Check.sentence("-1 for any other number.", TextBoundaryTest::countOther);
        Check.finish();
    }

    private static void noForms() {
        OpcodeAtlas atlas = new OpcodeAtlas();
        Check.due("count(0)", atlas.count(0), 0);
        Check.refused("operand() of form 0", IllegalArgumentException.class, () -> atlas.operand(0, 0, 0, 1, 0));
        Check.due("test()", atlas.test(), 0);
        Check.due("decode(0)", atlas.decode(0), -1);
        Check.due("the first form", Check.form(atlas, "a 00000000"), 0);
    }

    private static void noLines() {
        OpcodeAtlas atlas = new OpcodeAtlas();
        Check.due("count(1)", atlas.count(1), 0);
        atlas.test();
        Check.due("assemble(0)", atlas.assemble(0), 0);
        Check.due("erase()", atlas.erase(), 0);
        Check.due("the first line", Check.line(atlas, "a"), 1);
    }

    private static void emptyText() {
        OpcodeAtlas atlas = new OpcodeAtlas();
        Check.due("count(3)", atlas.count(3), 0);
        Check.refused("form()", IllegalArgumentException.class, atlas::form);
        Check.refused("line()", IllegalArgumentException.class, atlas::line);
        Check.due("the first type()", new OpcodeAtlas().type('a'), 1);
    }

    private static void notReady() {
        OpcodeAtlas atlas = new OpcodeAtlas();
        Check.due("count(2)", atlas.count(2), 0);
        Check.refused("decode(0)", IllegalStateException.class, () -> atlas.decode(0));
        Check.refused("value(0, 0)", IllegalStateException.class, () -> atlas.value(0, 0));
        Check.refused("write(0)", IllegalStateException.class, () -> atlas.write(0));
        Check.refused("assemble(0)", IllegalStateException.class, () -> atlas.assemble(0));
    }

    /** 12 forms in 132 calls, one test, 20 lines in 40, 83 rounds of four, and seven calls more: 512. */
    private static void all512Calls() {
        OpcodeAtlas atlas = new OpcodeAtlas();
        for (int i = 0; i < 12; i++) {
            String bits = Integer.toBinaryString(256 + i).substring(1);
            Check.due("form " + i, Check.form(atlas, (char) ('a' + i) + " " + bits), i);
        }
        Check.due("test()", atlas.test(), 0);
        for (int i = 0; i < 20; i++) {
            Check.due("line " + i, Check.line(atlas, "" + (char) ('a' + i % 12)), i + 1);
        }
        for (int i = 0; i < 83; i++) {
            int origin = i % 45;
            Check.due("assemble(" + origin + ")", atlas.assemble(origin), 20);
            Check.due("the form of the last line", atlas.decode(origin + 19), 7);
            Check.due("the byte of line 11", atlas.peek(origin + 11), 11);
            Check.due("the text of line 13", atlas.write(origin + 13), 1);
        }
        Check.refused("line 21", IllegalStateException.class, () -> Check.line(atlas, "A:"));
        Check.due("erase()", atlas.erase(), 20);
        Check.due("the last line", Check.line(atlas, "a"), 1);
        Check.due("count(1), the last call", atlas.count(1), 1);
    }

    private static void nothingShared() {
        OpcodeAtlas used = Check.ready("a 0000000x");
        used.operand(0, 0, 1, 2, 3);
        used.poke(0, 1);
        used.write(0);
        Check.line(used, "A:b");
        Check.refused("assemble(0)", java.util.NoSuchElementException.class, () -> used.assemble(0));
        used.type('a');
        OpcodeAtlas fresh = new OpcodeAtlas();
        for (int what = 0; what < 4; what++) {
            Check.due("count(" + what + ")", fresh.count(what), 0);
        }
        Check.due("fault()", fresh.fault(), -1);
        Check.due("written(0)", fresh.written(0), 0);
        Check.due("peek(0)", fresh.peek(0), 0);
        Check.due("a label of another object", Check.line(fresh, "A:"), 1);
        Check.form(fresh, "a 0000000x");
        fresh.test();
        fresh.poke(0, 1);
        Check.due("an operand of another object", fresh.value(0, 0), 1);
    }

    private static void anyCharacter() {
        for (int c = 0; c <= Character.MAX_VALUE; c++) {
            Check.due("type() of character " + c, new OpcodeAtlas().type((char) c), 1);
        }
    }

    private static void howMany() {
        OpcodeAtlas atlas = new OpcodeAtlas();
        for (int i = 1; i <= 40; i++) {
            Check.due("type() number " + i, atlas.type(' '), i);
            Check.due("count(3) after it", atlas.count(3), i);
        }
    }

    private static void fullText() {
        OpcodeAtlas atlas = typed(39);
        Check.due("type() when it has 39", atlas.type('a'), 40);
        Check.due("type() when it has 40", atlas.type('a'), -1);
        Check.due("type() when it has 40, again", atlas.type((char) 0), -1);
        Check.refused("form() of 40 characters", IllegalArgumentException.class, atlas::form);
        Check.due("type() once it is emptied", atlas.type('a'), 1);
    }

    private static void atMost40() {
        OpcodeAtlas atlas = typed(45);
        Check.due("count(3) after 45 characters", atlas.count(3), 40);
        Check.refused("line() of 40 characters", IllegalArgumentException.class, atlas::line);
        Check.due("count(3) after line()", atlas.count(3), 0);
        OpcodeAtlas again = typed(45);
        Check.refused("form() of 40 characters", IllegalArgumentException.class, again::form);
        Check.due("a form right behind it", Check.form(again, "abcd xxxxxxxxxxxxxxxxyyyyyyyy"), 0);
        Check.due("the longest line", Check.line(again, "F:abcd -12345,-12345,-12345"), 1);
    }

    private static OpcodeAtlas typed(int characters) {
        OpcodeAtlas atlas = new OpcodeAtlas();
        for (int i = 0; i < characters; i++) {
            atlas.type('a');
        }
        return atlas;
    }

    private static void countForms() {
        OpcodeAtlas atlas = new OpcodeAtlas();
        Check.due("count(0) at first", atlas.count(0), 0);
        for (int i = 0; i < 12; i++) {
            Check.form(atlas, (char) ('a' + i) + " 00000000");
            Check.due("count(0)", atlas.count(0), i + 1);
        }
        Check.refused("a thirteenth", IllegalStateException.class, () -> Check.form(atlas, "m 00000000"));
        Check.due("count(0) after a thirteenth", atlas.count(0), 12);
    }

    private static void countLines() {
        OpcodeAtlas atlas = new OpcodeAtlas();
        Check.due("count(1) at first", atlas.count(1), 0);
        for (int i = 0; i < 20; i++) {
            Check.line(atlas, "a");
            Check.due("count(1)", atlas.count(1), i + 1);
        }
        Check.refused("line 21", IllegalStateException.class, () -> Check.line(atlas, "a"));
        Check.due("count(1) after line 21", atlas.count(1), 20);
        atlas.erase();
        Check.due("count(1) after erase()", atlas.count(1), 0);
    }

    private static void countReady() {
        OpcodeAtlas atlas = new OpcodeAtlas();
        Check.due("count(2) at first", atlas.count(2), 0);
        atlas.test();
        Check.due("count(2) after test()", atlas.count(2), 1);
        Check.form(atlas, "a 00000000");
        Check.due("count(2) after form()", atlas.count(2), 0);
        Check.form(atlas, "b 00000000");
        atlas.test();
        Check.due("count(2) after a test() that found a clash", atlas.count(2), 0);
    }

    private static void countText() {
        OpcodeAtlas atlas = new OpcodeAtlas();
        Check.due("count(3) at first", atlas.count(3), 0);
        Check.due("count(3) of 1", typed(1).count(3), 1);
        Check.due("count(3) of 39", typed(39).count(3), 39);
        Check.due("count(3) of 40", typed(40).count(3), 40);
        Check.due("count(3) of 41", typed(41).count(3), 40);
    }

    private static void countOther() {
        OpcodeAtlas atlas = Check.ready("a 00000000");
        Check.line(atlas, "a");
        atlas.type('a');
        for (int what : NO_COUNTS) {
            Check.due("count(" + what + ")", atlas.count(what), -1);
        }
    }
}
