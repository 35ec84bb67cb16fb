import java.util.ArrayList;
import java.util.List;
import java.util.NoSuchElementException;
import java.util.Random;
import java.util.regex.Pattern;

/**
 * Random calls (the seeds are fixed, so each run is the same) on the class and on a slow model of the document,
 * written in another way: signs stay text, and an operand's field is found by trying every one.
 */
public final class ModelTest {
    private static final int OBJECTS = 1500;
    private static final int CALLS = 512;

    public static void main(String[] args) {
        for (int seed = 0; seed < OBJECTS; seed++) {
            if (!agree(new Random(seed))) {
                Check.due("seed " + seed + " agrees", 0, 1);
                break;
            }
        }
        Check.finish();
    }

    private static boolean agree(Random random) {
        OpcodeAtlas atlas = new OpcodeAtlas();
        Model model = new Model();
        StringBuilder log = new StringBuilder();
        String pending = "";
        int opening = 1 + random.nextInt(random.nextBoolean() ? 4 : 12);
        int formsAsked = 0;
        int after = 0;
        for (int i = 0; i < CALLS; i++) {
            int[] call;
            if (!pending.isEmpty()) {
                call = new int[] {0, pending.charAt(0)};
                pending = pending.substring(1);
            } else if (after != 0) {
                call = new int[] {after};
                after = 0;
            } else {
                boolean tellForm = formsAsked < opening ? random.nextInt(4) != 0 : random.nextInt(60) == 0;
                if (tellForm) {
                    formsAsked++;
                    pending = randomForm(random);
                    after = 1;
                    continue;
                } else if (random.nextInt(5) == 0) {
                    pending = randomLine(random, model);
                    after = 10;
                    continue;
                }
                call = randomCall(random, model);
            }
            String got = answer(atlas, null, call);
            String want = answer(null, model, call);
            log.append(java.util.Arrays.toString(call)).append(" -> ").append(got).append('\n');
            if (!got.equals(want)) {
                System.out.println(log + "due is " + want);
                return false;
            }
        }
        return true;
    }

    private static String answer(OpcodeAtlas atlas, Model model, int[] call) {
        try {
            return Integer.toString(atlas != null ? onAtlas(atlas, call) : onModel(model, call));
        } catch (RuntimeException e) {
            return e.getClass().getName();
        }
    }

    private static int onAtlas(OpcodeAtlas a, int[] c) {
        switch (c[0]) {
            case 0: return a.type((char) c[1]);
            case 1: return a.form();
            case 2: return a.operand(c[1], c[2], c[3], c[4], c[5]);
            case 3: return a.test();
            case 4: return a.poke(c[1], c[2]);
            case 5: return a.peek(c[1]);
            case 6: return a.decode(c[1]);
            case 7: return a.value(c[1], c[2]);
            case 8: return a.write(c[1]);
            case 9: return a.written(c[1]);
            case 10: return a.line();
            case 11: return a.erase();
            case 12: return a.assemble(c[1]);
            case 13: return a.fault();
            default: return a.count(c[1]);
        }
    }

    private static int onModel(Model m, int[] c) {
        switch (c[0]) {
            case 0: return m.type((char) c[1]);
            case 1: return m.form();
            case 2: return m.operand(c[1], c[2], c[3], c[4], c[5]);
            case 3: return m.test();
            case 4: return m.poke(c[1], c[2]);
            case 5: return m.peek(c[1]);
            case 6: return m.decode(c[1]);
            case 7: return m.value(c[1], c[2]);
            case 8: return m.write(c[1]);
            case 9: return m.written(c[1]);
            case 10: return m.line();
            case 11: return m.erase();
            case 12: return m.assemble(c[1]);
            case 13: return m.fault;
            default: return m.count(c[1]);
        }
    }

    private static int[] randomCall(Random r, Model model) {
        int address = r.nextInt(12) == 0 ? odd(r) : r.nextInt(r.nextBoolean() ? 6 : 64);
        switch (r.nextInt(16)) {
            case 0: return new int[] {2, odd(r), odd(r), odd(r), odd(r), odd(r)};
            case 1: return new int[] {2, r.nextInt(Math.max(1, model.forms.size())), r.nextInt(2), r.nextInt(3),
                1 + r.nextInt(8), r.nextInt(201) - 100};
            case 2: case 3: return new int[] {3};
            case 4: return new int[] {4, address, r.nextInt(4) == 0 ? r.nextInt() : likelyByte(r, model)};
            case 5: return new int[] {5, address};
            case 6: return new int[] {6, address};
            case 7: return new int[] {7, address, r.nextInt(6) == 0 ? odd(r) : r.nextInt(3)};
            case 8: return new int[] {8, address};
            case 9: case 10: return new int[] {9, r.nextInt(10) == 0 ? odd(r) : r.nextInt(12)};
            case 11: return new int[] {11};
            case 12: case 13: return new int[] {12, r.nextInt(6) == 0 ? odd(r) : r.nextInt(40)};
            case 14: return new int[] {14, r.nextInt(5) == 0 ? odd(r) : r.nextInt(4)};
            default: return r.nextInt(20) == 0 ? new int[] {1} : new int[] {13};
        }
    }

    private static int odd(Random r) {
        int[] odd = {-1, 0, 1, 2, 3, 8, 9, 11, 12, 13, 19, 20, 39, 40, 41, 63, 64, 65, 100, 101, -100, -101,
            Integer.MIN_VALUE, Integer.MAX_VALUE};
        return odd[r.nextInt(odd.length)];
    }

    private static int likelyByte(Random r, Model model) {
        if (model.forms.isEmpty()) {
            return r.nextInt(256);
        }
        String signs = model.forms.get(r.nextInt(model.forms.size())).signs;
        int b = 0;
        for (int k = 0; k < 8; k++) {
            char sign = signs.charAt(k);
            b = b * 2 + (sign == '0' ? 0 : sign == '1' ? 1 : r.nextInt(2));
        }
        return b;
    }

    private static String randomForm(Random r) {
        StringBuilder text = new StringBuilder(randomName(r)).append(' ');
        int bytes = 1 + r.nextInt(3);
        // A code in front keeps most forms apart, so that many atlases become ready.
        String code = Integer.toBinaryString(64 + r.nextInt(64)).substring(1, r.nextInt(3) == 0 ? 3 : 7);
        text.append(code);
        String letters = r.nextInt(5) == 0 ? "01xyz" : r.nextBoolean() ? "01x" : "xxyyx0";
        for (int k = code.length(); k < 8 * bytes; k++) {
            text.append(letters.charAt(r.nextInt(letters.length())));
        }
        return spoil(r, text);
    }

    private static String randomName(Random r) {
        int length = r.nextInt(25) == 0 ? 5 : 1 + r.nextInt(2);
        StringBuilder name = new StringBuilder();
        for (int i = 0; i < length; i++) {
            name.append((char) ('a' + r.nextInt(3)));
        }
        return name.toString();
    }

    private static String randomLine(Random r, Model model) {
        StringBuilder text = new StringBuilder();
        if (r.nextInt(2) == 0) {
            text.append((char) ('A' + r.nextInt(6))).append(':');
        }
        if (text.length() == 0 || r.nextInt(3) != 0) {
            boolean known = !model.forms.isEmpty() && r.nextInt(25) != 0;
            Form form = known ? model.forms.get(r.nextInt(model.forms.size())) : null;
            int operands = known ? form.operands : r.nextInt(4);
            text.append(known ? form.name : randomName(r));
            for (int i = 0; i < operands; i++) {
                // Most operands are values of some field, so that many programs are put.
                boolean likely = known && r.nextInt(10) != 0;
                text.append(i == 0 ? ' ' : ',');
                text.append(likely ? "" + form.value(i, r.nextInt(1 << form.bits(i)), r.nextInt(16)) : randomOperand(r));
            }
        }
        return spoil(r, text);
    }

    private static String randomOperand(Random r) {
        switch (r.nextInt(6)) {
            case 0: case 1: return "" + (char) ('A' + r.nextInt(6));
            case 2: return "" + (r.nextInt(200001) - 100000);
            default: return "" + (r.nextInt(r.nextBoolean() ? 8 : 80) - r.nextInt(10));
        }
    }

    private static String spoil(Random r, StringBuilder text) {
        if (r.nextInt(12) == 0 && text.length() > 0) {
            String odd = " ,:-0129AFGaxyz?\u0000\u0130";
            int place = r.nextInt(text.length());
            switch (r.nextInt(3)) {
                case 0: text.deleteCharAt(place); break;
                case 1: text.insert(place, odd.charAt(r.nextInt(odd.length()))); break;
                default: text.setCharAt(place, odd.charAt(r.nextInt(odd.length())));
            }
        }
        return text.toString();
    }

    private static final class Form {
        String name;
        String signs;
        int operands;
        int[] kind = new int[3];
        int[] scale = {1, 1, 1};
        int[] offset = new int[3];

        int bytes() {
            return signs.length() / 8;
        }

        int bits(int operand) {
            return (int) signs.chars().filter(c -> c == 'x' + operand).count();
        }

        char fixed(int k) {
            char sign = k < signs.length() ? signs.charAt(k) : '.';
            return sign == '0' || sign == '1' ? sign : '.';
        }

        int fixedCount() {
            return (int) signs.chars().filter(c -> c == '0' || c == '1').count();
        }

        boolean narrower(Form j) {
            for (int k = 0; k < 24; k++) {
                if (j.fixed(k) != '.' && j.fixed(k) != fixed(k)) {
                    return false;
                }
            }
            return fixedCount() > j.fixedCount() || fixedCount() == j.fixedCount() && bytes() > j.bytes();
        }

        boolean clash(Form j) {
            for (int k = 0; k < 24; k++) {
                if (fixed(k) != '.' && j.fixed(k) != '.' && fixed(k) != j.fixed(k)) {
                    return false;
                }
            }
            return !narrower(j) && !j.narrower(this);
        }

        int value(int operand, int field, int address) {
            int n = bits(operand);
            int number = field;
            if (kind[operand] != 0 && field >= Math.pow(2, n - 1)) {
                number -= (int) Math.pow(2, n);
            }
            return number * scale[operand] + offset[operand] + (kind[operand] == 2 ? address + bytes() : 0);
        }
    }

    private static final class Model {
        static final Pattern FORM = Pattern.compile("[a-z]{1,4} ([01xyz]{8}){1,3}");
        static final Pattern LINE = Pattern.compile(
            "[A-F]:|([A-F]:)?[a-z]{1,4}( (-?[0-9]{1,5}|[A-F])(,(-?[0-9]{1,5}|[A-F])){0,2})?");
        final List<Form> forms = new ArrayList<>();
        final List<String> lines = new ArrayList<>();
        final int[] memory = new int[64];
        String text = "";
        String output = "";
        boolean ready;
        int fault = -1;

        int type(char c) {
            if (text.length() == 40) {
                return -1;
            }
            text += c;
            return text.length();
        }

        int form() {
            String told = text;
            text = "";
            if (!FORM.matcher(told).matches()) {
                throw new IllegalArgumentException();
            }
            Form form = new Form();
            form.name = told.split(" ")[0];
            form.signs = told.split(" ")[1];
            for (int i = 0; i < 3; i++) {
                int n = form.bits(i);
                if (n > 16 || n > 0 && i > 0 && form.bits(i - 1) == 0) {
                    throw new IllegalArgumentException();
                }
                form.operands += n > 0 ? 1 : 0;
            }
            if (forms.size() == 12 || find(form.name, form.operands) != null) {
                throw new IllegalStateException();
            }
            forms.add(form);
            ready = false;
            return forms.size() - 1;
        }

        Form find(String name, int operands) {
            return forms.stream().filter(f -> f.name.equals(name) && f.operands == operands).findFirst().orElse(null);
        }

        int operand(int form, int operand, int kind, int scale, int offset) {
            boolean good = form >= 0 && form < forms.size() && operand >= 0 && operand <= 2
                && forms.get(form).bits(operand) > 0 && kind >= 0 && kind <= 2 && scale >= 1 && scale <= 8
                && offset >= -100 && offset <= 100;
            if (!good) {
                throw new IllegalArgumentException();
            }
            forms.get(form).kind[operand] = kind;
            forms.get(form).scale[operand] = scale;
            forms.get(form).offset[operand] = offset;
            return forms.get(form).bits(operand);
        }

        int test() {
            for (int i = 0; i < forms.size(); i++) {
                for (int j = i + 1; j < forms.size(); j++) {
                    if (forms.get(i).clash(forms.get(j))) {
                        ready = false;
                        return 1 + 16 * i + j;
                    }
                }
            }
            ready = true;
            return 0;
        }

        int poke(int address, int b) {
            int before = peek(address);
            memory[address] = Math.floorMod(b, 256);
            return before;
        }

        int peek(int address) {
            if (address < 0 || address > 63) {
                throw new IndexOutOfBoundsException();
            }
            return memory[address];
        }

        String bitsFrom(int address) {
            StringBuilder bits = new StringBuilder();
            for (int a = address; a < 64 && a < address + 3; a++) {
                bits.append(Integer.toBinaryString(256 + memory[a]).substring(1));
            }
            return bits.toString();
        }

        boolean matches(Form form, int address) {
            String bits = bitsFrom(address);
            if (form.signs.length() > bits.length()) {
                return false;
            }
            for (int k = 0; k < form.signs.length(); k++) {
                if (form.fixed(k) != '.' && form.fixed(k) != bits.charAt(k)) {
                    return false;
                }
            }
            return true;
        }

        int decode(int address) {
            if (!ready) {
                throw new IllegalStateException();
            }
            peek(address);
            for (int i = 0; i < forms.size(); i++) {
                if (!matches(forms.get(i), address)) {
                    continue;
                }
                boolean narrowest = true;
                for (int j = 0; j < forms.size(); j++) {
                    narrowest &= i == j || !matches(forms.get(j), address) || forms.get(i).narrower(forms.get(j));
                }
                if (narrowest) {
                    return i;
                }
            }
            return -1;
        }

        int value(int address, int operand) {
            int i = decode(address);
            if (i < 0 || operand < 0 || operand >= forms.get(i).operands) {
                throw new IndexOutOfBoundsException();
            }
            String field = "";
            for (int k = 0; k < forms.get(i).signs.length(); k++) {
                if (forms.get(i).signs.charAt(k) == 'x' + operand) {
                    field += bitsFrom(address).charAt(k);
                }
            }
            return forms.get(i).value(operand, Integer.parseInt(field, 2), address);
        }

        int write(int address) {
            int i = decode(address);
            List<String> values = new ArrayList<>();
            for (int k = 0; i >= 0 && k < forms.get(i).operands; k++) {
                values.add("" + value(address, k));
            }
            output = i < 0 ? "?" : (forms.get(i).name + " " + String.join(",", values)).trim();
            return output.length();
        }

        char written(int i) {
            return i >= 0 && i < output.length() ? output.charAt(i) : 0;
        }

        int line() {
            String told = text;
            text = "";
            if (!LINE.matcher(told).matches()) {
                throw new IllegalArgumentException();
            }
            if (told.indexOf(':') == 1 && lineOf(told.charAt(0)) >= 0) {
                throw new IllegalArgumentException();
            }
            if (lines.size() == 20) {
                throw new IllegalStateException();
            }
            lines.add(told);
            return lines.size();
        }

        int lineOf(char label) {
            for (int i = 0; i < lines.size(); i++) {
                if (lines.get(i).startsWith(label + ":")) {
                    return i;
                }
            }
            return -1;
        }

        int erase() {
            int before = lines.size();
            lines.clear();
            return before;
        }

        static String[] parts(String line) {
            String rest = line.substring(line.indexOf(':') + 1);
            return rest.isEmpty() ? new String[0] : rest.split("[ ,]");
        }

        int assemble(int origin) {
            if (!ready) {
                throw new IllegalStateException();
            }
            int bytes = 0;
            int[] before = new int[lines.size()];
            for (int i = 0; i < lines.size(); i++) {
                String[] parts = parts(lines.get(i));
                before[i] = bytes;
                if (parts.length > 0) {
                    Form form = find(parts[0], parts.length - 1);
                    if (form == null) {
                        fault = i;
                        throw new NoSuchElementException();
                    }
                    bytes += form.bytes();
                }
            }
            for (int i = 0; i < lines.size(); i++) {
                String[] parts = parts(lines.get(i));
                for (int k = 1; k < parts.length; k++) {
                    if (parts[k].matches("[A-F]") && lineOf(parts[k].charAt(0)) < 0) {
                        fault = i;
                        throw new NoSuchElementException();
                    }
                }
            }
            if (origin < 0 || origin > 63 || bytes > 64 - origin) {
                throw new IndexOutOfBoundsException();
            }
            StringBuilder all = new StringBuilder();
            for (int i = 0; i < lines.size(); i++) {
                if (parts(lines.get(i)).length > 0) {
                    all.append(encode(i, origin, before));
                }
            }
            for (int i = 0; i < bytes; i++) {
                memory[origin + i] = Integer.parseInt(all.substring(8 * i, 8 * i + 8), 2);
            }
            return bytes;
        }

        String encode(int i, int origin, int[] before) {
            String[] parts = parts(lines.get(i));
            Form form = find(parts[0], parts.length - 1);
            String bits = form.signs;
            for (int k = 1; k < parts.length; k++) {
                boolean label = parts[k].matches("[A-F]");
                int want = label ? origin + before[lineOf(parts[k].charAt(0))] : Integer.parseInt(parts[k]);
                int n = form.bits(k - 1);
                int field = 0;
                while (field < 1 << n && form.value(k - 1, field, origin + before[i]) != want) {
                    field++;
                }
                if (field == 1 << n) {
                    fault = i;
                    throw new IllegalArgumentException();
                }
                String digits = Integer.toBinaryString((1 << n) + field).substring(1);
                for (int d = 0; d < n; d++) {
                    bits = bits.replaceFirst("" + (char) ('x' + k - 1), "" + digits.charAt(d));
                }
            }
            return bits;
        }

        int count(int what) {
            int[] counts = {forms.size(), lines.size(), ready ? 1 : 0, text.length()};
            return what >= 0 && what < 4 ? counts[what] : -1;
        }
    }
}
