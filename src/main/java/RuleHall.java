/**
 * Facts and what follows from them: rules with negation in strata, facts that come and go in
 * transactions, and a log with checkpoints that outlives a crash.
 */
public final class RuleHall {
    public static final int NONE = -1;

    private static final int PREDICATES = 10;
    private static final int CONSTANTS = 12;
    private static final int MOST_TERMS = 3;
    private static final int MOST_RULES = 16;
    private static final int MOST_PARTS = 5;
    private static final int MOST_VARIABLES = 4;
    private static final int LETTERS = 26;
    private static final int MOST_STAGED = 64;
    private static final int MOST_LOGGED = 96;
    private static final int NUMBERS = CONSTANTS * CONSTANTS * CONSTANTS;
    private static final int EVERY_PREDICATE = (1 << PREDICATES) - 1;

    private static final int UNKNOWN = 0;
    private static final int BASE = 1;
    private static final int DERIVED = 2;

    private final Tape tape = new Tape();
    private final Inspector inspector = new Inspector();
    private final FactSet now = new FactSet();
    private final FactSet before = new FactSet();
    private final FactSet saved = new FactSet();
    private final Journal staged = new Journal(MOST_STAGED);
    private final Journal logged = new Journal(MOST_LOGGED);
    // A text is read into the draft, so that a faulty one leaves the program alone.
    private Program program = new Program();
    private Program draft = new Program();
    private final Reader reader = new Reader(tape, draft);
    private final Deducer deducer = new Deducer(program, now);
    private int safe = 0;

    public RuleHall() {
    }

    public boolean type(long word, int n) {
        return tape.append(word, n);
    }

    public int compile() throws IllegalArgumentException {
        int misplaced = reader.read(draft);
        tape.clear();
        inspector.inspect(draft, misplaced);
        if (inspector.found() != 0) {
            throw new IllegalArgumentException();
        }
        takeDraft();
        deducer.refresh(EVERY_PREDICATE);
        before.copyAll(now);
        return program.rules;
    }

    public int fault(int what) {
        switch (what) {
            case 0:
                return inspector.found();
            case 1:
                return inspector.place();
            default:
                return NONE;
        }
    }

    public int predicate(int p, int what) {
        if (p < 0 || p >= PREDICATES) {
            return NONE;
        }
        switch (what) {
            case 0:
                return program.sort[p];
            case 1:
                return program.arity[p];
            case 2:
                return program.stratum[p];
            case 3:
                return now.size(p);
            default:
                return NONE;
        }
    }

    public boolean put(int p, int a, int b, int c) {
        return stage(true, p, program.number(p, a, b, c));
    }

    public boolean remove(int p, int a, int b, int c) {
        return stage(false, p, program.number(p, a, b, c));
    }

    public int commit() throws IllegalStateException {
        if (logged.size() + staged.size() > MOST_LOGGED) {
            throw new IllegalStateException();
        }
        before.copyAll(now);
        staged.replay(now);
        logged.append(staged);
        staged.shorten(0);
        deducer.refresh(now.touched(before));
        return countChanges();
    }

    public int abort() {
        int forgotten = staged.size();
        staged.shorten(0);
        return forgotten;
    }

    public boolean holds(int p, int a, int b, int c) {
        return now.has(p, program.number(p, a, b, c));
    }

    public int fact(int p, int k) {
        return now.nth(p, k);
    }

    public int derivations(int p, int a, int b, int c) {
        int number = program.number(p, a, b, c);
        if (number == NONE || program.sortOf(p) != DERIVED) {
            return NONE;
        }
        return deducer.countDerivations(p, number);
    }

    public int changed(int k, int what) {
        if (k < 0) {
            return NONE;
        }
        int left = k;
        for (int p = 0; p < PREDICATES; p++) {
            int here = now.differences(before, p);
            if (left < here) {
                return describeChange(p, now.nthDifference(before, p, left), what);
            }
            left -= here;
        }
        return NONE;
    }

    public int sync() {
        safe = logged.size();
        return safe;
    }

    public int checkpoint() {
        for (int p = 0; p < PREDICATES; p++) {
            if (program.sort[p] == BASE) {
                saved.copyOne(now, p);
            }
        }
        logged.shorten(0);
        safe = 0;
        return saved.total();
    }

    public int crash() {
        before.copyAll(now);
        now.copyAll(saved);
        logged.shorten(safe);
        logged.replay(now);
        staged.shorten(0);
        deducer.refresh(EVERY_PREDICATE);
        return now.total();
    }

    public int log(int what) {
        switch (what) {
            case 0:
                return logged.size();
            case 1:
                return safe;
            case 2:
                return staged.size();
            case 3:
                return saved.total();
            default:
                return NONE;
        }
    }

    private void takeDraft() {
        Program spare = program;
        program = draft;
        draft = spare;
        program.rankStrata();
        deducer.use(program);
        now.clear();
        saved.clear();
        staged.shorten(0);
        logged.shorten(0);
        safe = 0;
    }

    private boolean stage(boolean puts, int p, int number) {
        return number != NONE && program.sortOf(p) == BASE && staged.add(puts, p, number);
    }

    private int countChanges() {
        int sum = 0;
        for (int p = 0; p < PREDICATES; p++) {
            sum += now.differences(before, p);
        }
        return sum;
    }

    private int describeChange(int p, int number, int what) {
        switch (what) {
            case 0:
                return p;
            case 1:
                return number;
            case 2:
                return now.has(p, number) ? 1 : 0;
            default:
                return NONE;
        }
    }

    /** What is typed for the next compile(). */
    private static final class Tape {
        static final int MOST = 480;
        static final int END = -1;

        private final byte[] text = new byte[MOST];
        private int length = 0;

        boolean append(long word, int n) {
            if (n < 1 || n > 8 || length + n > MOST || !isPrintable(word, n)) {
                return false;
            }
            for (int i = n - 1; i >= 0; i--) {
                text[length] = (byte) byteOf(word, i);
                length++;
            }
            return true;
        }

        void clear() {
            length = 0;
        }

        int at(int i) {
            return i >= 0 && i < length ? text[i] : END;
        }

        private static boolean isPrintable(long word, int n) {
            for (int i = 0; i < n; i++) {
                int b = byteOf(word, i);
                if (b < 32 || b > 126) {
                    return false;
                }
            }
            return true;
        }

        private static int byteOf(long word, int i) {
            return (int) (word >>> (8 * i)) & 255;
        }
    }

    /**
     * A table of rules: each has a HEAD entry, with the entries of its parts behind it. A term is
     * a constant, or CONSTANTS and the number of a variable's letter.
     */
    private static final class Program {
        static final int HEAD = 0;
        static final int ATOM = 1;
        static final int DENIED = 2;
        static final int EQUAL = 3;
        static final int UNLIKE = 4;
        static final int LESS = 5;
        // An entry takes two characters of the tape at least.
        static final int MOST_ENTRIES = Tape.MOST / 2;

        final int[] kind = new int[MOST_ENTRIES];
        final int[] place = new int[MOST_ENTRIES];
        final int[] who = new int[MOST_ENTRIES];
        final int[] width = new int[MOST_ENTRIES];
        final int[] term = new int[MOST_ENTRIES * MOST_TERMS];
        // start[r] is the entry of rule r's HEAD, start[r + 1] the end of its entries.
        final int[] start = new int[MOST_ENTRIES + 1];
        int size = 0;
        int rules = 0;

        final int[] sort = new int[PREDICATES];
        final int[] arity = new int[PREDICATES];
        final int[] stratum = new int[PREDICATES];
        // reach[p] has a bit for each predicate that p depends on.
        final int[] reach = new int[PREDICATES];

        void clear() {
            size = 0;
            rules = 0;
        }

        void addEntry(int entryKind, int predicate, int at) {
            if (size >= MOST_ENTRIES) {
                return;
            }
            kind[size] = entryKind;
            who[size] = predicate;
            place[size] = at;
            width[size] = 0;
            if (entryKind == HEAD) {
                rules++;
            }
            size++;
            start[rules] = size;
        }

        void setLastKind(int entryKind) {
            if (size > 0) {
                kind[size - 1] = entryKind;
            }
        }

        void addTerm(int value) {
            int last = size - 1;
            if (last < 0 || width[last] >= MOST_TERMS) {
                return;
            }
            term[last * MOST_TERMS + width[last]] = value;
            width[last]++;
        }

        int variables(int e) {
            int letters = 0;
            for (int t = 0; t < width[e]; t++) {
                int value = term[e * MOST_TERMS + t];
                if (value >= CONSTANTS) {
                    letters |= 1 << (value - CONSTANTS);
                }
            }
            return letters;
        }

        boolean isAtom(int e) {
            return kind[e] <= DENIED;
        }

        /** Finds what the predicates are and which depend on which. */
        void describePredicates() {
            for (int p = 0; p < PREDICATES; p++) {
                sort[p] = UNKNOWN;
                arity[p] = 0;
                reach[p] = 1 << p;
            }
            for (int e = 0; e < size; e++) {
                if (isAtom(e)) {
                    describeAtom(e);
                }
            }
            closeReach();
        }

        private void describeAtom(int e) {
            int p = who[e];
            if (sort[p] == UNKNOWN) {
                sort[p] = BASE;
                arity[p] = width[e];
            }
            if (kind[e] == HEAD) {
                sort[p] = DERIVED;
            }
        }

        private void closeReach() {
            for (int r = 0; r < rules; r++) {
                int head = start[r];
                for (int e = head + 1; e < start[r + 1]; e++) {
                    if (isAtom(e)) {
                        reach[who[head]] |= 1 << who[e];
                    }
                }
            }
            for (int middle = 0; middle < PREDICATES; middle++) {
                for (int p = 0; p < PREDICATES; p++) {
                    if ((reach[p] >> middle & 1) != 0) {
                        reach[p] |= reach[middle];
                    }
                }
            }
        }

        /** Without a fault no chain of rules is longer than there are predicates, so as many passes do. */
        void rankStrata() {
            for (int p = 0; p < PREDICATES; p++) {
                stratum[p] = sort[p] == DERIVED ? 1 : 0;
            }
            for (int pass = 0; pass < PREDICATES; pass++) {
                for (int r = 0; r < rules; r++) {
                    raiseHead(r);
                }
            }
        }

        private void raiseHead(int r) {
            int head = who[start[r]];
            for (int e = start[r] + 1; e < start[r + 1]; e++) {
                if (isAtom(e)) {
                    int least = stratum[who[e]] + (kind[e] == DENIED ? 1 : 0);
                    stratum[head] = Math.max(stratum[head], least);
                }
            }
        }

        int sortOf(int p) {
            return p >= 0 && p < PREDICATES ? sort[p] : UNKNOWN;
        }

        /** The number of a fact, NONE if there is no such fact. */
        int number(int p, int a, int b, int c) {
            if (sortOf(p) == UNKNOWN) {
                return NONE;
            }
            int terms = arity[p];
            if (terms > 0 && !isConstant(a) || terms > 1 && !isConstant(b) || terms > 2 && !isConstant(c)) {
                return NONE;
            }
            switch (terms) {
                case 0:
                    return 0;
                case 1:
                    return a;
                case 2:
                    return CONSTANTS * a + b;
                default:
                    return (CONSTANTS * a + b) * CONSTANTS + c;
            }
        }

        private static boolean isConstant(int value) {
            return value >= 0 && value < CONSTANTS;
        }

        /** The DERIVED predicates that depend on one of these. */
        int dependents(int touched) {
            int found = 0;
            for (int p = 0; p < PREDICATES; p++) {
                if (sort[p] == DERIVED && (reach[p] & touched) != 0) {
                    found |= 1 << p;
                }
            }
            return found;
        }
    }

    /** Reads the tape into a program, up to the first character that can't stand where it does. */
    private static final class Reader {
        private final Tape tape;
        private Program program;
        private int at = 0;
        private int wrong = NONE;

        Reader(Tape tape, Program program) {
            this.tape = tape;
            this.program = program;
        }

        /** The place of the syntax fault, NONE without one. */
        int read(Program into) {
            program = into;
            program.clear();
            at = 0;
            wrong = NONE;
            for (int i = 0; i < Tape.MOST && wrong == NONE && peek() != Tape.END; i++) {
                readRule();
            }
            return wrong;
        }

        private void readRule() {
            if (!readAtom(Program.HEAD) || accept('.')) {
                return;
            }
            // Between these two a blank can't stand, so it is not skipped.
            if (!accept(':') || tape.at(at) != '-') {
                refuse(at);
                return;
            }
            at++;
            boolean more = true;
            for (int i = 0; i < Tape.MOST && more && readPart(); i++) {
                more = accept(',');
                if (!more && !accept('.')) {
                    refuse(at);
                }
            }
        }

        private boolean readPart() {
            if (accept('!')) {
                return readAtom(Program.DENIED);
            }
            int c = peek();
            return c >= 'a' && c <= 'z' ? readAtom(Program.ATOM) : readComparison();
        }

        private boolean readAtom(int kind) {
            int c = peek();
            if (c < 'a' || c >= 'a' + PREDICATES) {
                return refuse(at);
            }
            program.addEntry(kind, c - 'a', at);
            at++;
            if (!accept('(')) {
                return true;
            }
            for (int n = 1; n <= MOST_TERMS; n++) {
                if (!readTerm()) {
                    return false;
                }
                if (accept(')')) {
                    return true;
                }
                if (n == MOST_TERMS || !accept(',')) {
                    break;
                }
            }
            return refuse(at);
        }

        private boolean readComparison() {
            program.addEntry(Program.EQUAL, NONE, at);
            if (!readTerm()) {
                return false;
            }
            if (accept('#')) {
                program.setLastKind(Program.UNLIKE);
            } else if (accept('<')) {
                program.setLastKind(Program.LESS);
            } else if (!accept('=')) {
                return refuse(at);
            }
            return readTerm();
        }

        private boolean readTerm() {
            int c = peek();
            if (c < 'A' || c > 'Z') {
                return readNumber();
            }
            program.addTerm(CONSTANTS + c - 'A');
            at++;
            return true;
        }

        private boolean readNumber() {
            int from = at;
            int value = 0;
            for (int c = tape.at(at); c >= '0' && c <= '9' && at < Tape.MOST; c = tape.at(at)) {
                // The bound keeps a long row of digits from wrapping round to a constant.
                value = Math.min(value * 10 + c - '0', CONSTANTS);
                at++;
            }
            boolean zeroAhead = at > from + 1 && tape.at(from) == '0';
            if (at == from || zeroAhead || value >= CONSTANTS) {
                return refuse(from);
            }
            program.addTerm(value);
            return true;
        }

        private int peek() {
            while (at < Tape.MOST && tape.at(at) == ' ') {
                at++;
            }
            return tape.at(at);
        }

        private boolean accept(int c) {
            if (peek() != c) {
                return false;
            }
            at++;
            return true;
        }

        private boolean refuse(int place) {
            wrong = place;
            return false;
        }
    }

    /** Looks for the faults of a program in the document's order. */
    private static final class Inspector {
        private static final int SYNTAX = 1;
        private static final int TERMS_DIFFER = 2;
        private static final int TOO_LARGE = 3;
        private static final int UNBOUND_VARIABLE = 4;
        private static final int DENIES_ITSELF = 5;

        private int found = 0;
        private int place = 0;

        int found() {
            return found;
        }

        int place() {
            return place;
        }

        /** A misplaced character, which the reader has found or not, goes ahead of all else. */
        void inspect(Program program, int misplaced) {
            found = 0;
            place = 0;
            if (misplaced != NONE) {
                found = SYNTAX;
                place = misplaced;
                return;
            }
            program.describePredicates();
            for (int f = TERMS_DIFFER; f <= DENIES_ITSELF && found == 0; f++) {
                int e = findFirst(f, program);
                if (e != NONE) {
                    found = f;
                    place = program.place[e];
                }
            }
        }

        /** The entry at which the first fault of a kind stands. */
        private static int findFirst(int f, Program program) {
            for (int r = 0; r < program.rules; r++) {
                int found = findInRule(f, program, r);
                if (found != NONE) {
                    return found;
                }
            }
            return NONE;
        }

        private static int findInRule(int f, Program program, int r) {
            int head = program.start[r];
            switch (f) {
                case TERMS_DIFFER:
                    return findOtherArity(program, r);
                case TOO_LARGE:
                    return isTooLarge(program, r) ? head : NONE;
                case UNBOUND_VARIABLE:
                    return hasUnboundVariable(program, r) ? head : NONE;
                default:
                    return findDenialOfItself(program, r);
            }
        }

        private static int findOtherArity(Program program, int r) {
            for (int e = program.start[r]; e < program.start[r + 1]; e++) {
                if (program.isAtom(e) && program.width[e] != program.arity[program.who[e]]) {
                    return e;
                }
            }
            return NONE;
        }

        private static boolean isTooLarge(Program program, int r) {
            int letters = 0;
            for (int e = program.start[r]; e < program.start[r + 1]; e++) {
                letters |= program.variables(e);
            }
            int parts = program.start[r + 1] - program.start[r] - 1;
            return r >= MOST_RULES || parts > MOST_PARTS || Integer.bitCount(letters) > MOST_VARIABLES;
        }

        private static boolean hasUnboundVariable(Program program, int r) {
            int bound = 0;
            int used = 0;
            for (int e = program.start[r]; e < program.start[r + 1]; e++) {
                if (program.kind[e] == Program.ATOM) {
                    bound |= program.variables(e);
                } else {
                    used |= program.variables(e);
                }
            }
            return (used & ~bound) != 0;
        }

        private static int findDenialOfItself(Program program, int r) {
            int head = program.who[program.start[r]];
            for (int e = program.start[r] + 1; e < program.start[r + 1]; e++) {
                if (program.kind[e] == Program.DENIED && (program.reach[program.who[e]] >> head & 1) != 0) {
                    return e;
                }
            }
            return NONE;
        }
    }

    /**
     * A set of facts. A row has a bit for each constant that may be the last of a fact, so that a
     * search sees at once which of the twelve are there.
     */
    private static final class FactSet {
        private static final int ROWS = CONSTANTS * CONSTANTS;

        private final int[] row = new int[PREDICATES * ROWS];
        private final int[] count = new int[PREDICATES];

        boolean has(int p, int number) {
            if (p < 0 || p >= PREDICATES || number < 0 || number >= NUMBERS) {
                return false;
            }
            return (row[p * ROWS + number / CONSTANTS] >> (number % CONSTANTS) & 1) != 0;
        }

        void add(int p, int number) {
            if (p < 0 || p >= PREDICATES || number < 0 || number >= NUMBERS) {
                return;
            }
            int place = p * ROWS + number / CONSTANTS;
            int bit = 1 << (number % CONSTANTS);
            if ((row[place] & bit) == 0) {
                row[place] |= bit;
                count[p]++;
            }
        }

        void drop(int p, int number) {
            if (has(p, number)) {
                row[p * ROWS + number / CONSTANTS] &= ~(1 << (number % CONSTANTS));
                count[p]--;
            }
        }

        /** The bits of the facts that begin with these constants, which the prefix has as a number. */
        int lastConstants(int p, int prefix) {
            return prefix >= 0 && prefix < ROWS ? row[p * ROWS + prefix] : 0;
        }

        int size(int p) {
            return count[p];
        }

        int total() {
            int sum = 0;
            for (int p = 0; p < PREDICATES; p++) {
                sum += count[p];
            }
            return sum;
        }

        void clear() {
            for (int p = 0; p < PREDICATES; p++) {
                empty(p);
            }
        }

        void empty(int p) {
            for (int i = p * ROWS; count[p] > 0 && i < (p + 1) * ROWS; i++) {
                row[i] = 0;
            }
            count[p] = 0;
        }

        void copyAll(FactSet other) {
            System.arraycopy(other.row, 0, row, 0, row.length);
            System.arraycopy(other.count, 0, count, 0, count.length);
        }

        void copyOne(FactSet other, int p) {
            System.arraycopy(other.row, p * ROWS, row, p * ROWS, ROWS);
            count[p] = other.count[p];
        }

        /** Adds facts none of which is here yet. */
        void absorb(FactSet other, int p) {
            int left = other.count[p];
            for (int i = p * ROWS; left > 0 && i < (p + 1) * ROWS; i++) {
                row[i] |= other.row[i];
                left -= Integer.bitCount(other.row[i]);
            }
            count[p] += other.count[p];
        }

        /** The number of the k-th fact. */
        int nth(int p, int k) {
            if (p < 0 || p >= PREDICATES || k < 0 || k >= count[p]) {
                return NONE;
            }
            int left = k;
            for (int i = 0; i < ROWS; i++) {
                int bits = row[p * ROWS + i];
                if (left < Integer.bitCount(bits)) {
                    return i * CONSTANTS + nthBit(bits, left);
                }
                left -= Integer.bitCount(bits);
            }
            return NONE;
        }

        int differences(FactSet other, int p) {
            int sum = 0;
            int left = count[p] + other.count[p];
            for (int i = p * ROWS; left > 0 && i < (p + 1) * ROWS; i++) {
                sum += Integer.bitCount(row[i] ^ other.row[i]);
                left -= Integer.bitCount(row[i]) + Integer.bitCount(other.row[i]);
            }
            return sum;
        }

        /** The number of the k-th fact that is in one of the two sets only. */
        int nthDifference(FactSet other, int p, int k) {
            int left = k;
            for (int i = 0; i < ROWS; i++) {
                int bits = row[p * ROWS + i] ^ other.row[p * ROWS + i];
                if (left < Integer.bitCount(bits)) {
                    return i * CONSTANTS + nthBit(bits, left);
                }
                left -= Integer.bitCount(bits);
            }
            return NONE;
        }

        /** The predicates whose facts are others than there. */
        int touched(FactSet other) {
            int found = 0;
            for (int p = 0; p < PREDICATES; p++) {
                if (differences(other, p) > 0) {
                    found |= 1 << p;
                }
            }
            return found;
        }

        private static int nthBit(int bits, int k) {
            int left = k;
            for (int b = 0; b < CONSTANTS; b++) {
                if ((bits >> b & 1) != 0) {
                    if (left == 0) {
                        return b;
                    }
                    left--;
                }
            }
            return NONE;
        }
    }

    /** Puts and removes in their order. */
    private static final class Journal {
        private final boolean[] puts;
        private final int[] who;
        private final int[] number;
        private int size = 0;

        Journal(int most) {
            puts = new boolean[most];
            who = new int[most];
            number = new int[most];
        }

        int size() {
            return size;
        }

        boolean add(boolean isPut, int p, int n) {
            if (size >= who.length) {
                return false;
            }
            puts[size] = isPut;
            who[size] = p;
            number[size] = n;
            size++;
            return true;
        }

        void append(Journal other) {
            for (int i = 0; i < other.size; i++) {
                add(other.puts[i], other.who[i], other.number[i]);
            }
        }

        void shorten(int to) {
            size = Math.max(0, Math.min(size, to));
        }

        void replay(FactSet facts) {
            for (int i = 0; i < size; i++) {
                if (puts[i]) {
                    facts.add(who[i], number[i]);
                } else {
                    facts.drop(who[i], number[i]);
                }
            }
        }
    }

    /** Keeps the DERIVED facts up to date. */
    private static final class Deducer {
        private final FactSet facts;
        private final FactSet fresh = new FactSet();
        private final FactSet latest = new FactSet();
        private final Search search;
        private Program program;

        Deducer(Program program, FactSet facts) {
            this.program = program;
            this.facts = facts;
            this.search = new Search(program, facts, fresh, latest);
        }

        void use(Program taken) {
            program = taken;
            search.use(taken);
        }

        int countDerivations(int p, int number) {
            int sum = 0;
            for (int r = 0; r < program.rules; r++) {
                if (program.who[program.start[r]] == p) {
                    sum += search.countSolutions(r, number);
                }
            }
            return sum;
        }

        /** Makes anew what depends on the touched predicates; the others stay as they are. */
        void refresh(int touched) {
            int stale = program.dependents(touched);
            for (int p = 0; p < PREDICATES; p++) {
                if ((stale >> p & 1) != 0) {
                    facts.empty(p);
                }
            }
            for (int s = 1; s <= PREDICATES && stale != 0; s++) {
                int members = stale & membersOf(s);
                if (members != 0) {
                    fillStratum(members);
                }
            }
        }

        private int membersOf(int s) {
            int members = 0;
            for (int p = 0; p < PREDICATES; p++) {
                if (program.stratum[p] == s) {
                    members |= 1 << p;
                }
            }
            return members;
        }

        /** Each round but the first looks only for what has one of the latest facts in it. */
        private void fillStratum(int members) {
            for (int r = 0; r < program.rules; r++) {
                if (isHeadAmong(members, r)) {
                    search.collect(r, NONE);
                }
            }
            for (int round = 0; round < PREDICATES * NUMBERS && takeFresh(members); round++) {
                for (int r = 0; r < program.rules; r++) {
                    if (isHeadAmong(members, r)) {
                        collectFromLatest(members, r);
                    }
                }
            }
        }

        private boolean isHeadAmong(int members, int r) {
            return (members >> program.who[program.start[r]] & 1) != 0;
        }

        private void collectFromLatest(int members, int r) {
            for (int e = program.start[r] + 1; e < program.start[r + 1]; e++) {
                if (program.kind[e] == Program.ATOM && (members >> program.who[e] & 1) != 0) {
                    search.collect(r, e);
                }
            }
        }

        private boolean takeFresh(int members) {
            boolean some = false;
            for (int p = 0; p < PREDICATES; p++) {
                if ((members >> p & 1) != 0) {
                    some |= fresh.size(p) > 0;
                    latest.copyOne(fresh, p);
                    facts.absorb(fresh, p);
                    fresh.empty(p);
                }
            }
            return some;
        }
    }

    /** Finds the constants for a rule's variables for which its body is so, part by part. */
    private static final class Search {
        private static final int EVERY_CONSTANT = (1 << CONSTANTS) - 1;

        private final FactSet facts;
        private final FactSet fresh;
        private final FactSet latest;
        // By terms: a constant has itself, a variable what it stands for, or NONE.
        private final int[] value = new int[CONSTANTS + LETTERS];
        private final int[] plan = new int[MOST_PARTS];
        private Program program;
        private int planned = 0;
        private int head = 0;
        private int end = 0;
        private int latestEntry = NONE;
        private boolean counting = false;
        private int solutions = 0;

        Search(Program program, FactSet facts, FactSet fresh, FactSet latest) {
            this.program = program;
            this.facts = facts;
            this.fresh = fresh;
            this.latest = latest;
            for (int i = 0; i < value.length; i++) {
                value[i] = i < CONSTANTS ? i : NONE;
            }
        }

        void use(Program taken) {
            program = taken;
        }

        /** Adds what a rule tells to the fresh facts; at entry first (if any) only the latest facts count. */
        void collect(int rule, int first) {
            open(rule, first);
            if (isHopeless()) {
                return;
            }
            counting = false;
            makePlan(0);
            solve(0);
        }

        /** In how many ways a rule tells a fact of its HEAD's predicate. */
        int countSolutions(int rule, int number) {
            open(rule, NONE);
            counting = true;
            solutions = 0;
            if (!isHopeless() && bindHead(number)) {
                makePlan(program.variables(head));
                solve(0);
            }
            for (int i = CONSTANTS; i < value.length; i++) {
                value[i] = NONE;
            }
            return solutions;
        }

        private void open(int rule, int first) {
            head = program.start[rule];
            end = program.start[rule + 1];
            latestEntry = first;
        }

        private boolean isHopeless() {
            for (int e = head + 1; e < end; e++) {
                if (program.kind[e] == Program.ATOM && sourceOf(e).size(program.who[e]) == 0) {
                    return true;
                }
            }
            return false;
        }

        private FactSet sourceOf(int e) {
            return e == latestEntry ? latest : facts;
        }

        private boolean bindHead(int number) {
            int left = number;
            for (int t = program.width[head] - 1; t >= 0; t--) {
                int slot = program.term[head * MOST_TERMS + t];
                int constant = left % CONSTANTS;
                if (value[slot] != NONE && value[slot] != constant) {
                    return false;
                }
                value[slot] = constant;
                left /= CONSTANTS;
            }
            return true;
        }

        private void makePlan(int boundAhead) {
            int bound = boundAhead;
            int used = 0;
            planned = 0;
            int next = latestEntry != NONE ? latestEntry : chooseNext(used, bound);
            while (next != NONE && planned < MOST_PARTS) {
                plan[planned] = next;
                planned++;
                used |= 1 << (next - head);
                bound |= program.variables(next);
                next = chooseNext(used, bound);
            }
        }

        /** A test as soon as its variables are bound, else the atom that leaves the fewest to try. */
        private int chooseNext(int used, int bound) {
            int best = NONE;
            int fewest = MOST_VARIABLES + 1;
            for (int e = head + 1; e < end; e++) {
                if ((used >> (e - head) & 1) != 0) {
                    continue;
                }
                int unbound = Integer.bitCount(program.variables(e) & ~bound);
                boolean isTest = program.kind[e] != Program.ATOM;
                if (isTest && unbound == 0) {
                    return e;
                }
                if (!isTest && unbound < fewest) {
                    best = e;
                    fewest = unbound;
                }
            }
            return best;
        }

        /** Goes as deep as there are parts: MOST_PARTS. */
        private void solve(int step) {
            if (step >= planned) {
                takeSolution(numberOf(head));
                return;
            }
            int e = plan[step];
            if (program.kind[e] == Program.ATOM && program.width[e] > 0) {
                tryTerm(step, 0, 0);
            } else if (isSo(e)) {
                solve(step + 1);
            }
        }

        /** Term t of the atom at this step, behind terms whose constants the prefix has as a number. */
        private void tryTerm(int step, int t, int prefix) {
            int e = plan[step];
            boolean last = t + 1 >= program.width[e];
            int options = last ? sourceOf(e).lastConstants(program.who[e], prefix) : EVERY_CONSTANT;
            int slot = program.term[e * MOST_TERMS + t];
            int fixed = value[slot];
            int from = fixed == NONE ? 0 : fixed;
            int to = fixed == NONE ? CONSTANTS - 1 : fixed;
            for (int v = from; v <= to && options >> v != 0; v++) {
                if ((options >> v & 1) != 0) {
                    value[slot] = v;
                    if (last) {
                        solve(step + 1);
                    } else {
                        tryTerm(step, t + 1, prefix * CONSTANTS + v);
                    }
                }
            }
            value[slot] = fixed;
        }

        private boolean isSo(int e) {
            switch (program.kind[e]) {
                case Program.ATOM:
                    return sourceOf(e).has(program.who[e], numberOf(e));
                case Program.DENIED:
                    return !facts.has(program.who[e], numberOf(e));
                default:
                    return compare(e);
            }
        }

        private boolean compare(int e) {
            int left = value[program.term[e * MOST_TERMS]];
            int right = value[program.term[e * MOST_TERMS + 1]];
            switch (program.kind[e]) {
                case Program.EQUAL:
                    return left == right;
                case Program.UNLIKE:
                    return left != right;
                default:
                    return left < right;
            }
        }

        private int numberOf(int e) {
            int number = 0;
            for (int t = 0; t < program.width[e]; t++) {
                number = number * CONSTANTS + value[program.term[e * MOST_TERMS + t]];
            }
            return number;
        }

        private void takeSolution(int number) {
            if (counting) {
                solutions++;
            } else if (!facts.has(program.who[head], number)) {
                fresh.add(program.who[head], number);
            }
        }
    }
}
