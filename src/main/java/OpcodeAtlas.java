import java.util.NoSuchElementException;

/** An instruction set told by forms, with a decoder, a writer and an assembler over 64 bytes of memory. */
public final class OpcodeAtlas {
    private static final int FORM_LIMIT = 12;
    private static final int LINE_LIMIT = 20;
    private static final int TEXT_LIMIT = 40;
    private static final int MEMORY_SIZE = 64;
    private static final int NAME_LIMIT = 4;
    private static final int OPERAND_LIMIT = 3;
    private static final int FIELD_LIMIT = 16;
    private static final int DIGIT_LIMIT = 5;
    private static final int SCALE_LIMIT = 8;
    private static final int OFFSET_LIMIT = 100;
    private static final int WORD_BYTES = 3;
    private static final int WORD_BITS = 24;
    private static final int PLAIN = 0;
    private static final int RELATIVE = 2;
    private static final int NONE = -1;
    // No value has more than six digits: 65535 * 8 + 100 is the one farthest from 0.
    private static final int HIGHEST_UNIT = 100000;

    private final Text typed;
    private final Text output;
    private final int[] memory;
    private final Form[] forms;
    private final Line[] lines;
    private int formCount;
    private int lineCount;
    private int faultLine;
    private boolean ready;

    public OpcodeAtlas() {
        typed = new Text();
        output = new Text();
        memory = new int[MEMORY_SIZE];
        // A text is read into the row behind the limit, so that one that comes too late can still
        // be told from one that is wrong; a row that is kept changes places with the next free one.
        forms = new Form[FORM_LIMIT + 1];
        for (int i = 0; i < forms.length; i++) {
            forms[i] = new Form();
        }
        lines = new Line[LINE_LIMIT + 1];
        for (int i = 0; i < lines.length; i++) {
            lines[i] = new Line();
        }
        faultLine = NONE;
    }

    public int type(char c) {
        return typed.add(c) ? typed.length : -1;
    }

    public int form() throws IllegalArgumentException, IllegalStateException {
        Form row = forms[FORM_LIMIT];
        boolean told = readForm(row);
        typed.clear();
        if (!told) {
            throw new IllegalArgumentException("the text tells no form");
        }
        if (formCount >= FORM_LIMIT) {
            throw new IllegalStateException("there are twelve forms");
        }
        if (findForm(row.name, row.operandCount) != NONE) {
            throw new IllegalStateException("a form has that name and as many operands");
        }
        forms[FORM_LIMIT] = forms[formCount];
        forms[formCount] = row;
        formCount++;
        ready = false;
        return formCount - 1;
    }

    public int operand(int form, int operand, int kind, int scale, int offset) throws IllegalArgumentException {
        if (form < 0 || form >= formCount) {
            throw new IllegalArgumentException("no such form");
        }
        if (operand < 0 || operand >= forms[form].operandCount) {
            throw new IllegalArgumentException("no such operand");
        }
        if (kind < PLAIN || kind > RELATIVE) {
            throw new IllegalArgumentException("no such kind");
        }
        if (scale < 1 || scale > SCALE_LIMIT) {
            throw new IllegalArgumentException("no such scale");
        }
        if (offset < -OFFSET_LIMIT || offset > OFFSET_LIMIT) {
            throw new IllegalArgumentException("no such offset");
        }
        Operand told = forms[form].operands[operand];
        told.kind = kind;
        told.scale = scale;
        told.offset = offset;
        return told.width;
    }

    public int test() {
        ready = false;
        for (int i = 0; i < formCount; i++) {
            for (int j = i + 1; j < formCount; j++) {
                if (forms[i].clashesWith(forms[j])) {
                    return 1 + 16 * i + j;
                }
            }
        }
        ready = true;
        return 0;
    }

    public int poke(int address, int b) throws IndexOutOfBoundsException {
        requireAddress(address);
        int before = memory[address];
        memory[address] = b & 255;
        return before;
    }

    public int peek(int address) throws IndexOutOfBoundsException {
        requireAddress(address);
        return memory[address];
    }

    public int decode(int address) throws IllegalStateException, IndexOutOfBoundsException {
        requireReady();
        requireAddress(address);
        return narrowestAt(address);
    }

    public int value(int address, int operand) throws IllegalStateException, IndexOutOfBoundsException {
        requireReady();
        requireAddress(address);
        int found = narrowestAt(address);
        if (found == NONE) {
            throw new IndexOutOfBoundsException("no form matches");
        }
        if (operand < 0 || operand >= forms[found].operandCount) {
            throw new IndexOutOfBoundsException("no such operand");
        }
        return operandAt(address, forms[found], operand);
    }

    public int write(int address) throws IllegalStateException, IndexOutOfBoundsException {
        requireReady();
        requireAddress(address);
        int found = narrowestAt(address);
        output.clear();
        if (found == NONE) {
            output.add('?');
        } else {
            writeInstruction(address, forms[found]);
        }
        return output.length;
    }

    public char written(int i) {
        return output.at(i);
    }

    public int line() throws IllegalArgumentException, IllegalStateException {
        Line row = lines[LINE_LIMIT];
        boolean told = readLine(row);
        typed.clear();
        if (!told) {
            throw new IllegalArgumentException("the text is no line");
        }
        if (row.label != NONE && findLabel(row.label) != NONE) {
            throw new IllegalArgumentException("the label stands before a colon already");
        }
        if (lineCount >= LINE_LIMIT) {
            throw new IllegalStateException("there are twenty lines");
        }
        lines[LINE_LIMIT] = lines[lineCount];
        lines[lineCount] = row;
        lineCount++;
        return lineCount;
    }

    public int erase() {
        int before = lineCount;
        lineCount = 0;
        return before;
    }

    public int assemble(int origin)
            throws IllegalStateException, NoSuchElementException, IndexOutOfBoundsException, IllegalArgumentException {
        requireReady();
        int unknown = chooseForms();
        if (unknown == NONE) {
            unknown = firstWithUnknownLabel();
        }
        if (unknown != NONE) {
            faultLine = unknown;
            throw new NoSuchElementException("no such form or label");
        }
        requireAddress(origin);
        int end = placeLines(origin);
        if (end > MEMORY_SIZE) {
            throw new IndexOutOfBoundsException("more bytes than fit behind the origin");
        }
        int unfit = firstUnfit();
        if (unfit != NONE) {
            faultLine = unfit;
            throw new IllegalArgumentException("an operand's value is not that of any field");
        }
        putLines();
        return end - origin;
    }

    public int fault() {
        return faultLine;
    }

    public int count(int what) {
        switch (what) {
            case 0:
                return formCount;
            case 1:
                return lineCount;
            case 2:
                return ready ? 1 : 0;
            case 3:
                return typed.length;
            default:
                return -1;
        }
    }

    private void requireReady() {
        if (!ready) {
            throw new IllegalStateException("the atlas is not ready");
        }
    }

    private void requireAddress(int address) {
        if (address < 0 || address >= MEMORY_SIZE) {
            throw new IndexOutOfBoundsException("no such address");
        }
    }

    private boolean readForm(Form row) {
        int name = typed.takeName();
        if (name == 0 || !typed.take(' ')) {
            return false;
        }
        int signs = typed.left();
        if (signs != 8 && signs != 16 && signs != 24) {
            return false;
        }
        row.begin(name, signs / 8);
        for (int k = 0; k < signs; k++) {
            if (!row.addSign(k, typed.takeAny())) {
                return false;
            }
        }
        return row.countOperands();
    }

    private int findForm(int name, int operandCount) {
        for (int i = 0; i < formCount; i++) {
            if (forms[i].name == name && forms[i].operandCount == operandCount) {
                return i;
            }
        }
        return NONE;
    }

    private int narrowestAt(int address) {
        int word = wordAt(address);
        int best = NONE;
        for (int i = 0; i < formCount; i++) {
            boolean matches = address + forms[i].bytes <= MEMORY_SIZE && forms[i].agreesWith(word);
            if (matches && (best == NONE || forms[i].isNarrowerThan(forms[best]))) {
                best = i;
            }
        }
        return best;
    }

    // Bytes behind the memory count as 0 here: no form that would use them matches.
    private int wordAt(int address) {
        int word = 0;
        for (int i = 0; i < WORD_BYTES; i++) {
            int place = address + i;
            word = word << 8 | (place >= 0 && place < MEMORY_SIZE ? memory[place] : 0);
        }
        return word;
    }

    private int operandAt(int address, Form form, int operand) {
        return form.operands[operand].valueIn(wordAt(address), address + form.bytes);
    }

    private void writeInstruction(int address, Form form) {
        output.addName(form.name);
        for (int i = 0; i < form.operandCount; i++) {
            output.add(i == 0 ? ' ' : ',');
            output.addNumber(operandAt(address, form, i));
        }
    }

    private boolean readLine(Line row) {
        row.name = 0;
        row.operandCount = 0;
        row.label = typed.takeLabel();
        if (row.label != NONE) {
            if (!typed.take(':')) {
                return false;
            }
            if (typed.left() == 0) {
                return true;
            }
        }
        row.name = typed.takeName();
        if (row.name == 0) {
            return false;
        }
        return typed.left() == 0 || typed.take(' ') && readOperands(row);
    }

    private boolean readOperands(Line row) {
        for (int i = 0; i < OPERAND_LIMIT; i++) {
            row.labels[i] = typed.takeLabel();
            if (row.labels[i] == NONE) {
                boolean negative = typed.take('-');
                int number = typed.takeDigits();
                if (number == NONE) {
                    return false;
                }
                row.numbers[i] = negative ? -number : number;
            }
            row.operandCount = i + 1;
            if (typed.left() == 0) {
                return true;
            }
            if (!typed.take(',')) {
                return false;
            }
        }
        return false;
    }

    private int findLabel(int label) {
        for (int i = 0; i < lineCount; i++) {
            if (lines[i].label == label) {
                return i;
            }
        }
        return NONE;
    }

    /** Gives each line the form of its instruction; answers the first line that has none, or NONE. */
    private int chooseForms() {
        int first = NONE;
        for (int i = 0; i < lineCount; i++) {
            Line line = lines[i];
            int found = line.name == 0 ? NONE : findForm(line.name, line.operandCount);
            line.form = found == NONE ? null : forms[found];
            if (line.name != 0 && found == NONE && first == NONE) {
                first = i;
            }
        }
        return first;
    }

    private int firstWithUnknownLabel() {
        for (int i = 0; i < lineCount; i++) {
            for (int k = 0; k < lines[i].operandCount; k++) {
                int label = lines[i].labels[k];
                if (label != NONE && findLabel(label) == NONE) {
                    return i;
                }
            }
        }
        return NONE;
    }

    /** Gives each line its address; answers the address behind the last one. */
    private int placeLines(int origin) {
        int address = origin;
        for (int i = 0; i < lineCount; i++) {
            lines[i].address = address;
            if (lines[i].form != null) {
                address += lines[i].form.bytes;
            }
        }
        return address;
    }

    private int firstUnfit() {
        for (int i = 0; i < lineCount; i++) {
            if (lines[i].form != null && !fits(lines[i], lines[i].form)) {
                return i;
            }
        }
        return NONE;
    }

    private boolean fits(Line line, Form form) {
        for (int k = 0; k < line.operandCount; k++) {
            if (!form.operands[k].reaches(wanted(line, k), line.address + form.bytes)) {
                return false;
            }
        }
        return true;
    }

    private int wanted(Line line, int operand) {
        if (line.labels[operand] == NONE) {
            return line.numbers[operand];
        }
        int target = findLabel(line.labels[operand]);
        return target == NONE ? 0 : lines[target].address;
    }

    private void putLines() {
        for (int i = 0; i < lineCount; i++) {
            if (lines[i].form != null) {
                putInstruction(lines[i], lines[i].form);
            }
        }
    }

    private void putInstruction(Line line, Form form) {
        int word = form.fixedBits;
        for (int k = 0; k < line.operandCount; k++) {
            word |= form.operands[k].bitsFor(wanted(line, k), line.address + form.bytes);
        }
        for (int i = 0; i < form.bytes; i++) {
            int place = line.address + i;
            if (place >= 0 && place < MEMORY_SIZE) {
                memory[place] = word >> (WORD_BITS - 8 - 8 * i) & 255;
            }
        }
    }

    /** Characters that are added at the end and, as typed text, read once from the front. */
    private static final class Text {
        final char[] chars = new char[TEXT_LIMIT];
        int length;
        int next;

        void clear() {
            length = 0;
            next = 0;
        }

        boolean add(char c) {
            if (length >= chars.length) {
                return false;
            }
            chars[length] = c;
            length++;
            return true;
        }

        void addName(int name) {
            for (int shift = 8 * (NAME_LIMIT - 1); shift >= 0; shift -= 8) {
                int letter = name >> shift & 255;
                if (letter != 0) {
                    add((char) letter);
                }
            }
        }

        void addNumber(int number) {
            if (number < 0) {
                add('-');
            }
            int size = number < 0 ? -number : number;
            for (int unit = HIGHEST_UNIT; unit >= 1; unit /= 10) {
                if (size >= unit || unit == 1) {
                    add((char) ('0' + size / unit % 10));
                }
            }
        }

        char at(int i) {
            return i >= 0 && i < length ? chars[i] : 0;
        }

        int left() {
            return length - next;
        }

        boolean nextIsWithin(char low, char high) {
            return next < length && chars[next] >= low && chars[next] <= high;
        }

        boolean take(char c) {
            if (!nextIsWithin(c, c)) {
                return false;
            }
            next++;
            return true;
        }

        char takeAny() {
            char c = at(next);
            next++;
            return c;
        }

        /** Up to four letters, eight bits each so that two names are alike if the numbers are; 0 if there is none. */
        int takeName() {
            int name = 0;
            for (int i = 0; i < NAME_LIMIT && nextIsWithin('a', 'z'); i++) {
                name = name << 8 | takeAny();
            }
            return name;
        }

        int takeLabel() {
            return nextIsWithin('A', 'F') ? takeAny() - 'A' : NONE;
        }

        int takeDigits() {
            if (!nextIsWithin('0', '9')) {
                return NONE;
            }
            int number = 0;
            for (int i = 0; i < DIGIT_LIMIT && nextIsWithin('0', '9'); i++) {
                number = number * 10 + takeAny() - '0';
            }
            return number;
        }
    }

    /** One form; sign k is bit 23 - k of its masks, however many bytes it has, so that forms compare bit by bit. */
    private static final class Form {
        final Operand[] operands = new Operand[OPERAND_LIMIT];
        int name;
        int bytes;
        int fixedMask;
        int fixedBits;
        int operandCount;

        Form() {
            for (int i = 0; i < operands.length; i++) {
                operands[i] = new Operand();
            }
        }

        void begin(int newName, int newBytes) {
            name = newName;
            bytes = newBytes;
            fixedMask = 0;
            fixedBits = 0;
            operandCount = 0;
            for (int i = 0; i < operands.length; i++) {
                operands[i].mask = 0;
                operands[i].width = 0;
            }
        }

        boolean addSign(int k, char sign) {
            int bit = 1 << (WORD_BITS - 1 - k);
            if (sign == '0' || sign == '1') {
                fixedMask |= bit;
                fixedBits |= sign == '1' ? bit : 0;
                return true;
            }
            if (sign < 'x' || sign > 'z') {
                return false;
            }
            operands[sign - 'x'].mask |= bit;
            operands[sign - 'x'].width++;
            return true;
        }

        boolean countOperands() {
            for (int i = 0; i < operands.length; i++) {
                int width = operands[i].width;
                if (width > FIELD_LIMIT || width > 0 && operandCount < i) {
                    return false;
                }
                if (width > 0) {
                    operandCount++;
                }
            }
            return true;
        }

        boolean agreesWith(int word) {
            return (word & fixedMask) == fixedBits;
        }

        boolean isNarrowerThan(Form other) {
            if ((other.fixedMask & ~fixedMask) != 0 || !other.agreesWith(fixedBits)) {
                return false;
            }
            int more = Integer.bitCount(fixedMask) - Integer.bitCount(other.fixedMask);
            return more > 0 || more == 0 && bytes > other.bytes;
        }

        boolean clashesWith(Form other) {
            boolean apart = (fixedMask & other.fixedMask & (fixedBits ^ other.fixedBits)) != 0;
            return !apart && !isNarrowerThan(other) && !other.isNarrowerThan(this);
        }
    }

    /** An operand of a form: the bits that are its field, and how a field becomes a value. */
    private static final class Operand {
        int mask;
        int width;
        int kind = PLAIN;
        int scale = 1;
        int offset;

        int base(int behind) {
            return kind == RELATIVE ? offset + behind : offset;
        }

        int lowest() {
            return kind == PLAIN ? 0 : -(1 << width >> 1);
        }

        int highest() {
            return lowest() + (1 << width) - 1;
        }

        int valueIn(int word, int behind) {
            int number = 0;
            for (int bit = WORD_BITS - 1; bit >= 0; bit--) {
                if ((mask >> bit & 1) == 1) {
                    number = number << 1 | word >> bit & 1;
                }
            }
            if (number > highest()) {
                number -= 1 << width;
            }
            return number * scale + base(behind);
        }

        boolean reaches(int wanted, int behind) {
            int rest = wanted - base(behind);
            if (scale < 1 || rest % scale != 0) {
                return false;
            }
            int number = rest / scale;
            return number >= lowest() && number <= highest();
        }

        /** The bits of the field for a value that it reaches. */
        int bitsFor(int wanted, int behind) {
            int number = scale < 1 ? 0 : (wanted - base(behind)) / scale;
            int bits = 0;
            for (int bit = 0; bit < WORD_BITS; bit++) {
                if ((mask >> bit & 1) == 1) {
                    bits |= (number & 1) << bit;
                    number >>= 1;
                }
            }
            return bits;
        }
    }

    /** A line of the program; its form and address are set anew by each assemble(). */
    private static final class Line {
        final int[] labels = new int[OPERAND_LIMIT];
        final int[] numbers = new int[OPERAND_LIMIT];
        int label;
        int name;
        int operandCount;
        int address;
        Form form;
    }
}
