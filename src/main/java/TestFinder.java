/** Finds the tests of a script, filters them, and judges how they ended. */
public final class TestFinder {
    public static final int NONE = -1;

    private static final int MOST_CHARACTERS = 1200;
    private static final int MOST_FILTER_CHARACTERS = 120;
    private static final int MOST_OPEN = 12;
    private static final int MOST_SUITES = 10;
    private static final int MOST_CASES = 40;
    private static final int MOST_TESTS = 120;
    private static final int MOST_TESTS_OF_A_CASE = 24;
    private static final int MOST_TAGS = 8;
    private static final int MOST_PARAMETERS = 4;
    private static final int MOST_VALUES = 6;
    private static final int MOST_NAME_CHARACTERS = 12;

    private final Tape tape;
    private final Script tests;
    private final ScriptReader scriptReader;
    private final FilterReader filterReader;
    private final TestName testName;
    private Filter inForce;

    public TestFinder() {
        tape = new Tape();
        tests = new Script();
        scriptReader = new ScriptReader(tests);
        filterReader = new FilterReader(tape);
        testName = new TestName();
        inForce = new Filter();
    }

    public boolean text(long w) {
        return tape.take(w);
    }

    public int script() {
        int ill = scriptReader.read(tape);
        tape.size = 0;
        inForce.size = 0;
        return ill;
    }

    public int count(int what) {
        switch (what) {
            case 0: return tests.suites.size;
            case 1: return tests.caseCount;
            case 2: return tests.testCount;
            default: return NONE;
        }
    }

    public int test(int i, int what) {
        if (!tests.has(i)) {
            return NONE;
        }
        Case its = tests.caseOf(i);
        switch (what) {
            case 0: return tests.caseNumbers[i];
            case 1: return its.suite;
            case 2: return its.size;
            case 3: return its.skipped ? 1 : 0;
            case 4: return its.fails ? 1 : 0;
            case 5: return its.tags.size;
            case 6: return its.parameters.size;
            case 7: testName.write(its, i); return testName.size;
            case 8: return its.line;
            default: return NONE;
        }
    }

    public int letter(int test, int k) {
        if (!tests.has(test)) {
            return NONE;
        }
        testName.write(tests.caseOf(test), test);
        return k >= 0 && k < testName.size ? testName.cells[k] : NONE;
    }

    public int reason(int test, int k) {
        if (!tests.has(test)) {
            return NONE;
        }
        Case its = tests.caseOf(test);
        if (!its.skipped || k < 0 || k >= its.reasonEnd - its.reasonStart) {
            return NONE;
        }
        return tests.text[its.reasonStart + k];
    }

    public int find() {
        int found = NONE;
        for (int i = 0; i < tests.testCount && found == NONE; i++) {
            testName.write(tests.caseOf(i), i);
            if (testName.isOn(tape)) {
                found = i;
            }
        }
        tape.size = 0;
        return found;
    }

    public int filter() {
        int ill = filterReader.read();
        tape.size = 0;
        if (ill == NONE) {
            inForce = filterReader.exchange(inForce);
        }
        return ill;
    }

    public boolean passes(int test) {
        return tests.has(test) && inForce.holds(tests.caseOf(test), test);
    }

    public int passing() {
        int passing = 0;
        for (int i = 0; i < tests.testCount; i++) {
            if (inForce.holds(tests.caseOf(i), i)) {
                passing++;
            }
        }
        return passing;
    }

    public int judge(int test, boolean passed) {
        if (!tests.has(test)) {
            return NONE;
        }
        Case its = tests.caseOf(test);
        if (its.skipped) {
            return 3;
        }
        if (its.fails) {
            return passed ? 4 : 1;
        }
        return passed ? 0 : 2;
    }

    /** The characters that wait to become a SCRIPT, a FILTER or a NAME to find. */
    private static final class Tape {
        final char[] cells = new char[MOST_CHARACTERS];
        int size;

        boolean take(long w) {
            int coming = 0;
            for (int shift = 56; shift >= 0; shift -= 8) {
                int c = (int) (w >>> shift) & 255;
                if (c != 0 && !mayCome(c)) {
                    return false;
                }
                coming += c == 0 ? 0 : 1;
            }
            if (coming > cells.length - size) {
                return false;
            }
            for (int shift = 56; shift >= 0; shift -= 8) {
                int c = (int) (w >>> shift) & 255;
                if (c != 0 && size < cells.length) {
                    cells[size] = (char) c;
                    size++;
                }
            }
            return true;
        }

        private static boolean mayCome(int c) {
            return c == 10 || c >= 32 && c <= 126;
        }
    }

    /**
     * NAMES and VALUES as numbers, so that they can be compared and kept without their text: the
     * 37 characters are the digits 1 to 37 of base 38, and twelve such digits just fit a long.
     */
    private static final class Names {
        static final long WRONG = 0;
        static final long BASE = 38;

        static boolean isLetter(char c) {
            return c >= 'a' && c <= 'z';
        }

        /** 1 to 37, or 0 for a character that no NAME and no VALUE has. */
        static int digitOf(char c) {
            if (c >= 'a' && c <= 'z') {
                return c - 'a' + 1;
            }
            if (c >= '0' && c <= '9') {
                return c - '0' + 27;
            }
            return c == '_' ? 37 : 0;
        }

        static int length(long code) {
            int length = 0;
            for (long rest = code; rest > 0; rest /= BASE) {
                length++;
            }
            return length;
        }

        static char lastCharacter(long code) {
            int digit = (int) (code % BASE);
            if (digit <= 26) {
                return (char) ('a' + digit - 1);
            }
            return digit == 37 ? '_' : (char) ('0' + digit - 27);
        }
    }

    /** A row of different NAMES or VALUES, no more than it has room for. */
    private static final class NameRow {
        final long[] codes;
        int size;

        NameRow(int most) {
            codes = new long[most < 0 ? 0 : most];
        }

        boolean add(long code) {
            if (code == Names.WRONG || size >= codes.length || indexOf(code) != NONE) {
                return false;
            }
            codes[size] = code;
            size++;
            return true;
        }

        int indexOf(long code) {
            for (int i = 0; i < size; i++) {
                if (codes[i] == code) {
                    return i;
                }
            }
            return NONE;
        }

        long at(int i) {
            return i >= 0 && i < size ? codes[i] : Names.WRONG;
        }

        void addAll(NameRow other) {
            for (int i = 0; i < other.size; i++) {
                add(other.codes[i]);
            }
        }
    }

    /** A CASE with all that its own lines and its SUITE's TAGS say of it. */
    private static final class Case {
        long name;
        long suiteName;
        int suite;
        int line;
        int size;
        boolean skipped;
        boolean fails;
        int reasonStart;
        int reasonEnd;
        int firstTest;
        int testCount;
        boolean sized;
        final NameRow tags = new NameRow(MOST_TAGS);
        final NameRow parameters = new NameRow(MOST_PARAMETERS);
        final NameRow[] values = new NameRow[MOST_PARAMETERS];

        Case() {
            for (int p = 0; p < values.length; p++) {
                values[p] = new NameRow(MOST_VALUES);
            }
        }

        void begin(long itsName, int itsLine) {
            name = itsName;
            line = itsLine;
            suite = NONE;
            suiteName = Names.WRONG;
            size = 1;
            sized = false;
            skipped = false;
            fails = false;
            testCount = 1;
            tags.size = 0;
            parameters.size = 0;
        }

        /** The VALUE that one of its TESTS gives a PARAMETER: the last PARAMETER's change fastest. */
        long valueIn(int test, int parameter) {
            if (parameter < 0 || parameter >= parameters.size) {
                return Names.WRONG;
            }
            int turn = test - firstTest;
            for (int p = parameters.size - 1; p > parameter; p--) {
                if (values[p].size > 0) {
                    turn /= values[p].size;
                }
            }
            int choices = values[parameter].size;
            return choices > 0 ? values[parameter].at(turn % choices) : Names.WRONG;
        }
    }

    /** What the last SCRIPT says; its text stays, since the REASONS stand in it. */
    private static final class Script {
        final char[] text = new char[MOST_CHARACTERS];
        int length;
        final NameRow suites = new NameRow(MOST_SUITES);
        final Case[] cases = new Case[MOST_CASES];
        int caseCount;
        final int[] caseNumbers = new int[MOST_TESTS];
        int testCount;

        Script() {
            for (int i = 0; i < cases.length; i++) {
                cases[i] = new Case();
            }
        }

        void forget() {
            suites.size = 0;
            caseCount = 0;
            testCount = 0;
        }

        void become(Tape tape) {
            forget();
            length = tape.size;
            System.arraycopy(tape.cells, 0, text, 0, length);
        }

        int lineEnd(int from) {
            int end = from;
            while (end < length && text[end] != 10) {
                end++;
            }
            return end;
        }

        /** Only once all is read are the PARAMETERS, and with them the TESTS of each CASE, known. */
        void numberTests() {
            int next = 0;
            for (int i = 0; i < caseCount; i++) {
                cases[i].firstTest = next;
                for (int t = 0; t < cases[i].testCount && next < caseNumbers.length; t++) {
                    caseNumbers[next] = i;
                    next++;
                }
            }
        }

        boolean has(int test) {
            return test >= 0 && test < testCount;
        }

        Case caseOf(int test) {
            return cases[has(test) ? caseNumbers[test] : 0];
        }
    }

    /** The WORDS of one LINE, by where they stand in the text. */
    private static final class Words {
        final int[] starts = new int[MOST_CHARACTERS / 2];
        final int[] ends = new int[MOST_CHARACTERS / 2];
        int count;
        final char[] text;

        Words(char[] text) {
            this.text = text;
        }

        void cut(int from, int to) {
            count = 0;
            int start = from;
            for (int i = from; i <= to; i++) {
                if (i == to || text[i] == ' ') {
                    add(start, i);
                    start = i + 1;
                }
            }
        }

        private void add(int start, int end) {
            if (start < end && count < starts.length) {
                starts[count] = start;
                ends[count] = end;
                count++;
            }
        }

        boolean isComment() {
            return count > 0 && text[starts[0]] == '#';
        }

        boolean beginWith(String word) {
            if (count == 0 || ends[0] - starts[0] != word.length()) {
                return false;
            }
            for (int i = 0; i < word.length(); i++) {
                if (text[starts[0] + i] != word.charAt(i)) {
                    return false;
                }
            }
            return true;
        }

        long name(int i) {
            boolean named = i >= 0 && i < count && Names.isLetter(text[starts[i]]);
            return named ? value(i) : Names.WRONG;
        }

        long value(int i) {
            if (i < 0 || i >= count || ends[i] - starts[i] > MOST_NAME_CHARACTERS) {
                return Names.WRONG;
            }
            long code = 0;
            for (int at = starts[i]; at < ends[i]; at++) {
                int digit = Names.digitOf(text[at]);
                if (digit == 0) {
                    return Names.WRONG;
                }
                code = code * Names.BASE + digit;
            }
            return code;
        }

        /** A WORD that is one digit, or 0 if it is another. */
        int number(int i) {
            if (i < 0 || i >= count || ends[i] - starts[i] != 1) {
                return 0;
            }
            char c = text[starts[i]];
            return c >= '1' && c <= '9' ? c - '0' : 0;
        }
    }

    /** Reads a SCRIPT line by line; each of its answers false means that the LINE is ILL. */
    private static final class ScriptReader {
        private final Script script;
        private final Words words;
        private final NameRow suiteTags = new NameRow(MOST_TAGS);
        private boolean caseOpen;

        ScriptReader(Script script) {
            this.script = script;
            words = new Words(script.text);
        }

        int read(Tape tape) {
            script.become(tape);
            caseOpen = false;
            int from = 0;
            for (int line = 0; line < MOST_CHARACTERS && from < script.length; line++) {
                int to = script.lineEnd(from);
                words.cut(from, to);
                if (!accept(line)) {
                    script.forget();
                    return line;
                }
                from = to + 1;
            }
            script.numberTests();
            return NONE;
        }

        private boolean accept(int line) {
            if (words.count == 0 || words.isComment()) {
                return true;
            }
            if (words.beginWith("suite")) {
                return openSuite();
            }
            if (words.beginWith("case")) {
                return openCase(line);
            }
            if (words.beginWith("tag")) {
                return addTags();
            }
            if (!caseOpen || script.caseCount < 1) {
                return false;
            }
            Case open = script.cases[script.caseCount - 1];
            if (words.beginWith("with")) {
                return addParameter(open);
            }
            if (words.beginWith("size")) {
                return setSize(open);
            }
            if (words.beginWith("skip")) {
                return skip(open);
            }
            return words.beginWith("fails") && expectFailure(open);
        }

        private boolean openSuite() {
            caseOpen = false;
            suiteTags.size = 0;
            return words.count == 2 && script.suites.add(words.name(1));
        }

        private boolean openCase(int line) {
            long name = words.name(1);
            int suite = script.suites.size - 1;
            if (words.count != 2 || name == Names.WRONG || isTaken(name, suite)) {
                return false;
            }
            if (script.caseCount >= script.cases.length || script.testCount >= MOST_TESTS) {
                return false;
            }
            Case open = script.cases[script.caseCount];
            open.begin(name, line);
            if (suite != NONE) {
                open.suite = suite;
                open.suiteName = script.suites.at(suite);
                open.tags.addAll(suiteTags);
            }
            script.caseCount++;
            script.testCount++;
            caseOpen = true;
            return true;
        }

        private boolean isTaken(long name, int suite) {
            for (int i = 0; i < script.caseCount; i++) {
                if (script.cases[i].suite == suite && script.cases[i].name == name) {
                    return true;
                }
            }
            return false;
        }

        private boolean addTags() {
            if (words.count < 2 || !caseOpen && script.suites.size == 0) {
                return false;
            }
            NameRow tags = suiteTags;
            if (caseOpen && script.caseCount > 0) {
                tags = script.cases[script.caseCount - 1].tags;
            }
            for (int i = 1; i < words.count; i++) {
                if (!tags.add(words.name(i))) {
                    return false;
                }
            }
            return true;
        }

        private boolean addParameter(Case open) {
            int number = open.parameters.size;
            if (words.count < 3 || !open.parameters.add(words.name(1)) || number >= open.values.length) {
                return false;
            }
            NameRow values = open.values[number];
            values.size = 0;
            for (int i = 2; i < words.count; i++) {
                if (!values.add(words.value(i))) {
                    return false;
                }
            }
            int before = open.testCount;
            open.testCount = before * values.size;
            script.testCount += open.testCount - before;
            return open.testCount <= MOST_TESTS_OF_A_CASE && script.testCount <= MOST_TESTS;
        }

        private boolean setSize(Case open) {
            int number = words.number(1);
            if (words.count != 2 || number == 0 || open.sized) {
                return false;
            }
            open.sized = true;
            open.size = number;
            return true;
        }

        private boolean skip(Case open) {
            if (words.count < 2 || open.skipped) {
                return false;
            }
            open.skipped = true;
            open.reasonStart = words.starts[1];
            open.reasonEnd = words.ends[words.count - 1];
            return true;
        }

        private boolean expectFailure(Case open) {
            if (words.count != 1 || open.fails) {
                return false;
            }
            open.fails = true;
            return true;
        }
    }

    /** A TEST's NAME, written anew for each call that asks for it. */
    private static final class TestName {
        private static final int PARTS = 2 + 2 * MOST_PARAMETERS;

        /** Behind each part, in a NAME with all of them, stands one mark. */
        final char[] cells = new char[PARTS * (MOST_NAME_CHARACTERS + 1)];
        int size;

        void write(Case its, int test) {
            size = 0;
            if (its.suite != NONE) {
                addName(its.suiteName);
                addMark('.');
            }
            addName(its.name);
            for (int p = 0; p < its.parameters.size; p++) {
                addMark(p == 0 ? '[' : ',');
                addName(its.parameters.at(p));
                addMark('=');
                addName(its.valueIn(test, p));
            }
            if (its.parameters.size > 0) {
                addMark(']');
            }
        }

        private void addMark(char mark) {
            if (size < cells.length) {
                cells[size] = mark;
                size++;
            }
        }

        private void addName(long name) {
            int length = Names.length(name);
            if (length > cells.length - size) {
                return;
            }
            long rest = name;
            for (int i = size + length - 1; i >= size; i--) {
                cells[i] = Names.lastCharacter(rest);
                rest /= Names.BASE;
            }
            size += length;
        }

        boolean isOn(Tape tape) {
            if (tape.size != size) {
                return false;
            }
            for (int i = 0; i < size; i++) {
                if (tape.cells[i] != cells[i]) {
                    return false;
                }
            }
            return true;
        }
    }

    /** A FILTER as steps, each operator behind what it works on; without steps every TEST passes. */
    private static final class Filter {
        /** The kinds of steps are the marks of the language; a TAG, which has none, has this. */
        static final char TAG = '#';

        final char[] kinds = new char[MOST_FILTER_CHARACTERS];
        final long[] names = new long[MOST_FILTER_CHARACTERS];
        final long[] values = new long[MOST_FILTER_CHARACTERS];
        final boolean[] answers = new boolean[MOST_FILTER_CHARACTERS];
        int size;

        void add(char kind, long name, long value) {
            if (size < kinds.length) {
                kinds[size] = kind;
                names[size] = name;
                values[size] = value;
                size++;
            }
        }

        boolean holds(Case its, int test) {
            int open = 0;
            for (int i = 0; i < size; i++) {
                if (kinds[i] == '!') {
                    negate(open - 1);
                } else if (kinds[i] == '&' || kinds[i] == '|') {
                    open--;
                    join(kinds[i], open - 1);
                } else if (open >= 0 && open < answers.length) {
                    answers[open] = atomHolds(i, its, test);
                    open++;
                }
            }
            return open < 1 || open > answers.length || answers[open - 1];
        }

        private void negate(int at) {
            if (at >= 0 && at < answers.length) {
                answers[at] = !answers[at];
            }
        }

        private void join(char kind, int at) {
            if (at >= 0 && at + 1 < answers.length) {
                boolean first = answers[at];
                boolean second = answers[at + 1];
                answers[at] = kind == '&' ? first && second : first || second;
            }
        }

        private boolean atomHolds(int step, Case its, int test) {
            switch (kinds[step]) {
                case TAG: return its.tags.indexOf(names[step]) != NONE;
                case '@': return its.suite != NONE && its.suiteName == names[step];
                case '=': return its.name == names[step];
                case ':': return hasValue(step, its, test);
                case '<': return its.size < values[step];
                case '?': return its.skipped;
                case '~': return its.fails;
                default: return false;
            }
        }

        private boolean hasValue(int step, Case its, int test) {
            int parameter = its.parameters.indexOf(names[step]);
            return parameter != NONE && its.valueIn(test, parameter) == values[step];
        }
    }

    /** Reads a FILTER; where a part of it answers false, it is ILL at the place reached. */
    private static final class FilterReader {
        private final Tape tape;
        private final char[] text;
        private int length;
        private int place;
        private Filter steps;

        FilterReader(Tape tape) {
            this.tape = tape;
            text = tape.cells;
            steps = new Filter();
        }

        int read() {
            if (tape.size > MOST_FILTER_CHARACTERS) {
                return MOST_FILTER_CHARACTERS;
            }
            length = tape.size;
            place = 0;
            steps.size = 0;
            return either(0) && place == length ? NONE : place;
        }

        /** Hands out the FILTER just read, and takes the old one to write the next into. */
        Filter exchange(Filter old) {
            Filter fresh = steps;
            steps = old;
            return fresh;
        }

        private boolean either(int open) {
            if (!also(open)) {
                return false;
            }
            while (place < length && next() == '|') {
                place++;
                if (!also(open)) {
                    return false;
                }
                steps.add('|', Names.WRONG, 0);
            }
            return true;
        }

        private boolean also(int open) {
            if (!not(open)) {
                return false;
            }
            while (place < length && next() == '&') {
                place++;
                if (!not(open)) {
                    return false;
                }
                steps.add('&', Names.WRONG, 0);
            }
            return true;
        }

        private boolean not(int open) {
            char mark = next();
            switch (mark) {
                case '!': return open < MOST_OPEN && negated(open + 1);
                case '(': return open < MOST_OPEN && enclosed(open + 1);
                case '?': return plain(mark);
                case '~': return plain(mark);
                case '<': return less();
                case '@': return named(mark);
                case '=': return named(mark);
                default: return tagOrValue();
            }
        }

        private boolean negated(int open) {
            place++;
            if (!not(open)) {
                return false;
            }
            steps.add('!', Names.WRONG, 0);
            return true;
        }

        private boolean enclosed(int open) {
            place++;
            if (!either(open) || next() != ')') {
                return false;
            }
            place++;
            return true;
        }

        private boolean plain(char mark) {
            place++;
            steps.add(mark, Names.WRONG, 0);
            return true;
        }

        private boolean named(char mark) {
            place++;
            long name = word(true);
            steps.add(mark, name, 0);
            return name != Names.WRONG;
        }

        private boolean less() {
            place++;
            char digit = next();
            if (digit < '1' || digit > '9') {
                return false;
            }
            place++;
            steps.add('<', Names.WRONG, digit - '0');
            return true;
        }

        private boolean tagOrValue() {
            long name = word(true);
            if (name == Names.WRONG) {
                return false;
            }
            if (next() != ':') {
                steps.add(Filter.TAG, name, 0);
                return true;
            }
            place++;
            long value = word(false);
            steps.add(':', name, value);
            return value != Names.WRONG;
        }

        /** A thirteenth character is left where it is: nothing that may follow begins with it. */
        private long word(boolean isName) {
            char first = next();
            if (isName && !Names.isLetter(first)) {
                return Names.WRONG;
            }
            int end = Math.min(length, place + MOST_NAME_CHARACTERS);
            long code = 0;
            while (place < end && Names.digitOf(text[place]) != 0) {
                code = code * Names.BASE + Names.digitOf(text[place]);
                place++;
            }
            return code;
        }

        /** The next character that is no blank, which place comes to; 0 at the FILTER's end. */
        private char next() {
            while (place < length && text[place] == ' ') {
                place++;
            }
            return place < length ? text[place] : 0;
        }
    }
}
