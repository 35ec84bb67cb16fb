/** What the tests share: typing whole texts, and counting answers that are not as due. */
final class Check {
    interface Call {
        long run();
    }

    private static int wrong = 0;

    private Check() {
    }

    /** A test of one sentence of the document; what it throws by mistake counts as a wrong answer of that sentence. */
    static void sentence(String words, Runnable test) {
        int before = wrong;
        try {
            test.run();
        } catch (RuntimeException e) {
            wrong++;
            System.out.println("the test threw " + e);
        }
        if (wrong != before) {
            System.out.println("^ this breaks the sentence: " + words);
        }
    }

    /** What a call answers, or the name of the class that it throws. */
    static String answer(Call call) {
        try {
            return Long.toString(call.run());
        } catch (RuntimeException e) {
            return e.getClass().getName();
        }
    }

    static void due(String what, long got, long want) {
        if (got != want) {
            wrong++;
            System.out.println(what + " answered " + got + ", due is " + want);
        }
    }

    static void due(String what, String got, String want) {
        if (!got.equals(want)) {
            wrong++;
            System.out.println(what + " answered '" + got + "', due is '" + want + "'");
        }
    }

    /** The class must be the very one: what the machine throws is often of a class below it. */
    static void refused(String what, Class<? extends RuntimeException> want, Call call) {
        due(what, answer(call), want.getName());
    }

    static void type(OpcodeAtlas atlas, String text) {
        for (int i = 0; i < text.length(); i++) {
            atlas.type(text.charAt(i));
        }
    }

    static int form(OpcodeAtlas atlas, String text) {
        type(atlas, text);
        return atlas.form();
    }

    static int line(OpcodeAtlas atlas, String text) {
        type(atlas, text);
        return atlas.line();
    }

    static OpcodeAtlas ready(String... forms) {
        OpcodeAtlas atlas = new OpcodeAtlas();
        for (String text : forms) {
            form(atlas, text);
        }
        due("test() of a sound atlas", atlas.test(), 0);
        return atlas;
    }

    static void program(OpcodeAtlas atlas, String... texts) {
        atlas.erase();
        for (String text : texts) {
            line(atlas, text);
        }
    }

    static void bytes(String what, OpcodeAtlas atlas, int address, int... want) {
        for (int i = 0; i < want.length; i++) {
            due(what + ", byte " + (address + i), atlas.peek(address + i), want[i]);
        }
    }

    static String writtenText(OpcodeAtlas atlas) {
        StringBuilder text = new StringBuilder();
        for (int i = 0; i < 60 && atlas.written(i) != 0; i++) {
            text.append(atlas.written(i));
        }
        return text.toString();
    }

    static void finish() {
        System.out.println(wrong == 0 ? "all answers are as due" : wrong + " answers are not as due");
        if (wrong != 0) {
            System.exit(1);
        }
    }
}
