import java.util.Arrays;
import java.util.NoSuchElementException;

/** An analyzer that infers calling conventions from simple machine code. */
public final class ConventionInference {
    private static final int FUNCTIONS = 8;
    private static final int REGISTERS = 8;
    private static final int SLOTS = 4;
    private static final int BODY_LIMIT = 14;
    private static final int TEXT_LIMIT = 60;
    private static final int STACK_LIMIT = 6;
    private static final int ACTIVATION_LIMIT = 8;
    private static final int STEP_LIMIT = 300;

    private static final int ALL_REGISTERS = (1 << REGISTERS) - 1;
    private static final int ALL_SLOTS = (1 << SLOTS) - 1;

    /** The nodes of a body are its instructions and one exit, where all its returns meet. */
    private static final int EXIT = BODY_LIMIT;
    private static final int NODES = BODY_LIMIT + 1;

    private static final char USE = 'u';
    private static final char DEFINE = 'd';
    private static final char MOVE = 'm';
    private static final char PUSH = '+';
    private static final char POP = '-';
    private static final char CALL = 'c';
    private static final char LOAD = 'l';
    private static final char STORE = 's';
    private static final char BRANCH = 'b';
    private static final char RETURN = 'r';

    private final Text text;
    private final Code code;
    private final Code saved;
    private final Flow flow;
    private final Values values;
    private final Definitions definitions;
    private final Liveness liveness;
    private final Sites sites;
    private final Machine machine;
    private boolean isSaved;
    /** Whether bodies have changed since the facts were inferred. */
    private boolean isStale;
    /** Whether there was a run since bodies have changed. */
    private boolean hasRun;

    public ConventionInference() {
        text = new Text();
        code = new Code();
        saved = new Code();
        flow = new Flow(code);
        values = new Values(code, flow);
        definitions = new Definitions(code, flow);
        liveness = new Liveness(code, flow, values, definitions);
        sites = new Sites(code, flow);
        machine = new Machine(code);
        isSaved = false;
        isStale = true;
        hasRun = false;
    }

    public int appendCharacter(int character) throws IllegalArgumentException, IllegalStateException {
        if (character < 33 || character > 126) {
            throw new IllegalArgumentException("not a character from 33 to 126");
        }
        if (text.size >= TEXT_LIMIT) {
            throw new IllegalStateException("the text is full");
        }
        text.signs[text.size] = (char) character;
        text.size++;
        return text.size;
    }

    public int setBody(int function)
            throws IndexOutOfBoundsException, IllegalArgumentException, IllegalStateException {
        checkFunction(function);
        text.read();
        if (text.fault != Text.NO_FAULT) {
            throw new IllegalArgumentException("the text has a fault");
        }
        if (text.count > BODY_LIMIT) {
            throw new IllegalStateException("too many instructions");
        }
        code.take(function, text);
        forgetFacts();
        return code.counts[function];
    }

    public int faultPosition() {
        return text.fault;
    }

    public int length(int function) throws IndexOutOfBoundsException {
        checkFunction(function);
        return code.counts[function];
    }

    public char instruction(int function, int index) throws IndexOutOfBoundsException {
        checkInstruction(function, index);
        return code.kindAt(function, index);
    }

    public int operand(int function, int index) throws IndexOutOfBoundsException, UnsupportedOperationException {
        checkInstruction(function, index);
        if (code.kindAt(function, index) == RETURN) {
            throw new UnsupportedOperationException("a return has no operand");
        }
        return code.numberAt(function, index);
    }

    public int removeInstruction(int function, int index) throws IndexOutOfBoundsException {
        checkInstruction(function, index);
        code.drop(function, index);
        forgetFacts();
        return code.counts[function];
    }

    public boolean isReachable(int function, int index) throws IndexOutOfBoundsException {
        checkInstruction(function, index);
        inferFacts();
        return flow.reaches(function, index);
    }

    public boolean isBalanced(int function) throws IndexOutOfBoundsException {
        checkFunction(function);
        inferFacts();
        return values.balanced[function];
    }

    public int preserved(int function) throws IndexOutOfBoundsException {
        checkFunction(function);
        inferFacts();
        return values.kept[function];
    }

    public int surelyDefined(int function) throws IndexOutOfBoundsException {
        checkFunction(function);
        inferFacts();
        return definitions.sure[function];
    }

    public int arguments(int function) throws IndexOutOfBoundsException {
        checkFunction(function);
        inferFacts();
        return liveness.taken[function];
    }

    public int results(int function) throws IndexOutOfBoundsException {
        checkFunction(function);
        inferFacts();
        return liveness.given[function];
    }

    public int liveBefore(int function, int index) throws IndexOutOfBoundsException, IllegalStateException {
        checkInstruction(function, index);
        inferFacts();
        if (!flow.reaches(function, index)) {
            throw new IllegalStateException("the instruction is not reachable");
        }
        return liveness.before(function, index);
    }

    public int neededSlots(int function) throws IndexOutOfBoundsException {
        checkFunction(function);
        inferFacts();
        return sites.needed[function];
    }

    public boolean isVariadic(int function) throws IndexOutOfBoundsException {
        checkFunction(function);
        inferFacts();
        return sites.differFor(function);
    }

    public int callees(int function) throws IndexOutOfBoundsException {
        checkFunction(function);
        inferFacts();
        return flow.called[function];
    }

    public int callersOf(int function) throws IndexOutOfBoundsException {
        checkFunction(function);
        inferFacts();
        return flow.callers(function);
    }

    public boolean isRecursive(int function) throws IndexOutOfBoundsException {
        checkFunction(function);
        inferFacts();
        return contains(flow.calledInAll(function), function);
    }

    public int siteCount() {
        inferFacts();
        return sites.count;
    }

    public int site(int site, int part) throws IndexOutOfBoundsException, IllegalArgumentException {
        inferFacts();
        checkSite(site);
        if (part < 0 || part > 2) {
            throw new IllegalArgumentException("no such part");
        }
        if (part == 0) {
            return sites.callers[site];
        }
        return part == 1 ? sites.indices[site] : sites.callees[site];
    }

    public int passedSlots(int site) throws IndexOutOfBoundsException {
        inferFacts();
        checkSite(site);
        return sites.passed[site];
    }

    public int missingSlots(int site) throws IndexOutOfBoundsException {
        inferFacts();
        checkSite(site);
        return sites.missing(site);
    }

    public int lostRegisters(int site) throws IndexOutOfBoundsException {
        inferFacts();
        checkSite(site);
        return lostAt(site);
    }

    public int liveBehind(int site) throws IndexOutOfBoundsException {
        inferFacts();
        checkSite(site);
        return liveness.behind(sites.callers[site], sites.indices[site]);
    }

    public int problems() {
        inferFacts();
        return countProblems();
    }

    public int firstProblem() throws NoSuchElementException {
        inferFacts();
        for (int site = 0; site < sites.count; site++) {
            if (hasProblem(site)) {
                return site;
            }
        }
        throw new NoSuchElementException("no call site has a problem");
    }

    public int votes(int register, int kind) throws IndexOutOfBoundsException, IllegalArgumentException {
        checkRegister(register);
        if (kind < 0 || kind > 3) {
            throw new IllegalArgumentException("no such kind");
        }
        inferFacts();
        return countVotes(register, kind);
    }

    public int role(int register) throws IndexOutOfBoundsException, NoSuchElementException {
        checkRegister(register);
        int voters = code.countFilled();
        if (voters == 0) {
            throw new NoSuchElementException("all bodies are empty");
        }
        inferFacts();
        if (2 * countVotes(register, 0) >= voters) {
            return 1;
        }
        if (countVotes(register, 1) >= 1) {
            return 2;
        }
        return 2 * countVotes(register, 2) >= voters ? 3 : 4;
    }

    public int run(int function, int choices) throws IndexOutOfBoundsException {
        checkFunction(function);
        machine.execute(function, choices);
        hasRun = true;
        return machine.steps;
    }

    public boolean isCut() throws IllegalStateException {
        checkRun();
        return machine.wasCut;
    }

    public int observed() throws IllegalStateException, NoSuchElementException {
        checkRun();
        checkNotCut();
        int own = 0;
        for (int register = 0; register < REGISTERS; register++) {
            if (machine.registers[register] == register) {
                own |= 1 << register;
            }
        }
        return own;
    }

    public int origin(int register)
            throws IndexOutOfBoundsException, IllegalStateException, NoSuchElementException {
        checkRegister(register);
        checkRun();
        checkNotCut();
        int value = machine.registers[register];
        if (value >= REGISTERS) {
            throw new NoSuchElementException("the value is not an initial one");
        }
        return value;
    }

    public double preservedShare() throws ArithmeticException {
        int voters = code.countFilled();
        if (voters == 0) {
            throw new ArithmeticException("all bodies are empty");
        }
        inferFacts();
        int sum = 0;
        for (int register = 0; register < REGISTERS; register++) {
            sum += countVotes(register, 3);
        }
        return (double) sum / (double) voters;
    }

    public float problemShare() throws ArithmeticException {
        inferFacts();
        if (sites.count == 0) {
            throw new ArithmeticException("there are no call sites");
        }
        return (float) countProblems() / (float) sites.count;
    }

    public void save() {
        saved.copyFrom(code);
        isSaved = true;
    }

    public void restore() throws IllegalStateException {
        if (!isSaved) {
            throw new IllegalStateException("nothing was saved");
        }
        code.copyFrom(saved);
        forgetFacts();
    }

    private void checkFunction(int function) {
        if (function < 0 || function >= FUNCTIONS) {
            throw new IndexOutOfBoundsException("no such function");
        }
    }

    private void checkInstruction(int function, int index) {
        checkFunction(function);
        if (index < 0 || index >= code.counts[function]) {
            throw new IndexOutOfBoundsException("no such instruction");
        }
    }

    private void checkRegister(int register) {
        if (register < 0 || register >= REGISTERS) {
            throw new IndexOutOfBoundsException("no such register");
        }
    }

    private void checkSite(int site) {
        if (site < 0 || site >= sites.count) {
            throw new IndexOutOfBoundsException("no such call site");
        }
    }

    private void checkRun() {
        if (!hasRun) {
            throw new IllegalStateException("there was no run of these bodies");
        }
    }

    private void checkNotCut() {
        if (machine.wasCut) {
            throw new NoSuchElementException("the run was cut");
        }
    }

    private void forgetFacts() {
        isStale = true;
        hasRun = false;
    }

    /** The order matters: each part builds on the ones before it. */
    private void inferFacts() {
        if (isStale) {
            flow.infer();
            values.infer();
            definitions.infer();
            liveness.infer();
            sites.infer();
            isStale = false;
        }
    }

    private int lostAt(int site) {
        int callee = sites.callees[site];
        int behind = liveness.behind(sites.callers[site], sites.indices[site]);
        return behind & values.clobbered(callee) & ~definitions.sure[callee];
    }

    private boolean hasProblem(int site) {
        return sites.missing(site) != 0 || lostAt(site) != 0;
    }

    private int countProblems() {
        int count = 0;
        for (int site = 0; site < sites.count; site++) {
            if (hasProblem(site)) {
                count++;
            }
        }
        return count;
    }

    private int countVotes(int register, int kind) {
        int count = 0;
        for (int function = 0; function < FUNCTIONS; function++) {
            if (code.counts[function] > 0 && contains(votedFor(function, kind), register)) {
                count++;
            }
        }
        return count;
    }

    private int votedFor(int function, int kind) {
        if (kind == 0) {
            return liveness.taken[function];
        }
        if (kind == 1) {
            return liveness.given[function];
        }
        return kind == 2 ? values.clobbered(function) : values.kept[function];
    }

    private static boolean contains(int set, int element) {
        return ((set >> element) & 1) != 0;
    }

    /** The text that is being written, and the instructions that were read from the latest one. */
    private static final class Text {
        static final int NO_FAULT = -1;

        final char[] signs = new char[TEXT_LIMIT];
        final char[] kinds = new char[BODY_LIMIT];
        final int[] numbers = new int[BODY_LIMIT];
        int size = 0;
        int count = 0;
        int fault = NO_FAULT;

        /** Reads the text and empties it, whether it has a fault or not. */
        void read() {
            count = 0;
            fault = findFault();
            size = 0;
        }

        /** Keeps the instructions on its way, so that the text is gone through only once. */
        private int findFault() {
            boolean begins = true;
            char kind = RETURN;
            int number = 0;
            int digitsDue = 0;
            for (int i = 0; i < size; i++) {
                char sign = signs[i];
                if (begins) {
                    kind = sign;
                    number = 0;
                    digitsDue = digitsBehind(sign);
                    if (digitsDue < 0) {
                        return i;
                    }
                    begins = false;
                } else if (digitsDue > 0) {
                    if (!fits(kind, sign)) {
                        return i;
                    }
                    number = 10 * number + (sign - '0');
                    digitsDue--;
                } else {
                    if (sign != ';') {
                        return i;
                    }
                    keep(kind, number);
                    begins = true;
                }
            }
            if (size == 0) {
                return NO_FAULT;
            }
            if (begins || digitsDue > 0) {
                return size;
            }
            keep(kind, number);
            return NO_FAULT;
        }

        /** Instructions beyond the limit are only counted: the body will be refused. */
        private void keep(char kind, int number) {
            if (count < BODY_LIMIT) {
                kinds[count] = kind;
                numbers[count] = number;
            }
            count++;
        }

        /** Answers -1 if the sign does not begin an instruction. */
        private static int digitsBehind(char sign) {
            if (sign == MOVE) {
                return 2;
            }
            if (sign == RETURN) {
                return 0;
            }
            boolean hasOne = sign == USE || sign == DEFINE || sign == PUSH || sign == POP || sign == CALL
                    || sign == LOAD || sign == STORE || sign == BRANCH;
            return hasOne ? 1 : -1;
        }

        private static boolean fits(char kind, char digit) {
            if (kind == BRANCH) {
                return digit >= '1' && digit <= '9';
            }
            if (kind == LOAD || kind == STORE) {
                return digit >= '0' && digit <= '3';
            }
            return digit >= '0' && digit <= '7';
        }
    }

    /** The bodies of all functions; each function has a row of BODY_LIMIT places. */
    private static final class Code {
        final int[] counts = new int[FUNCTIONS];
        final char[] kinds = new char[FUNCTIONS * BODY_LIMIT];
        final int[] numbers = new int[FUNCTIONS * BODY_LIMIT];

        char kindAt(int function, int index) {
            return kinds[function * BODY_LIMIT + index];
        }

        int numberAt(int function, int index) {
            return numbers[function * BODY_LIMIT + index];
        }

        boolean isCall(int function, int index) {
            return kindAt(function, index) == CALL;
        }

        /** The register that an instruction other than a call reads, as a set. */
        int readBy(int function, int index) {
            char kind = kindAt(function, index);
            int number = numberAt(function, index);
            if (kind == USE) {
                return 1 << number;
            }
            return kind == MOVE ? 1 << (number % 10) : 0;
        }

        /** The register that an instruction other than a call writes, as a set. */
        int writtenBy(int function, int index) {
            char kind = kindAt(function, index);
            int number = numberAt(function, index);
            if (kind == DEFINE || kind == POP) {
                return 1 << number;
            }
            return kind == MOVE ? 1 << (number / 10) : 0;
        }

        int entry(int function) {
            return counts[function] == 0 ? EXIT : 0;
        }

        /** The node that follows an instruction if it is no branch that is taken. */
        int next(int function, int index) {
            return nodeBehind(function, index, 0);
        }

        /** The node that follows an instruction if it is a branch that is taken; else the next one. */
        int other(int function, int index) {
            int at = function * BODY_LIMIT + index;
            return nodeBehind(function, index, kinds[at] == BRANCH ? numbers[at] : 0);
        }

        private int nodeBehind(int function, int index, int skipped) {
            int node = index + 1 + skipped;
            boolean returns = kinds[function * BODY_LIMIT + index] == RETURN || node >= counts[function];
            return returns ? EXIT : node;
        }

        int countFilled() {
            int filled = 0;
            for (int function = 0; function < FUNCTIONS; function++) {
                if (counts[function] > 0) {
                    filled++;
                }
            }
            return filled;
        }

        void take(int function, Text text) {
            int base = function * BODY_LIMIT;
            int count = Math.min(text.count, BODY_LIMIT);
            for (int i = 0; i < count; i++) {
                kinds[base + i] = text.kinds[i];
                numbers[base + i] = text.numbers[i];
            }
            counts[function] = count;
        }

        void drop(int function, int index) {
            int base = function * BODY_LIMIT;
            for (int i = index; i + 1 < counts[function]; i++) {
                kinds[base + i] = kinds[base + i + 1];
                numbers[base + i] = numbers[base + i + 1];
            }
            counts[function]--;
        }

        void copyFrom(Code source) {
            System.arraycopy(source.counts, 0, counts, 0, FUNCTIONS);
            System.arraycopy(source.kinds, 0, kinds, 0, FUNCTIONS * BODY_LIMIT);
            System.arraycopy(source.numbers, 0, numbers, 0, FUNCTIONS * BODY_LIMIT);
        }
    }

    /**
     * Which nodes execution can come to, and who calls whom.
     * All branches go forward, so one pass in the order of a body settles what flows forward in it.
     */
    private static final class Flow {
        final Code code;
        final int[] reached = new int[FUNCTIONS];
        final int[] called = new int[FUNCTIONS];

        Flow(Code code) {
            this.code = code;
        }

        void infer() {
            for (int function = 0; function < FUNCTIONS; function++) {
                follow(function);
            }
        }

        private void follow(int function) {
            int nodes = 1 << code.entry(function);
            int callees = 0;
            for (int i = 0; i < code.counts[function]; i++) {
                if (contains(nodes, i)) {
                    nodes |= (1 << code.next(function, i)) | (1 << code.other(function, i));
                    callees |= code.isCall(function, i) ? 1 << code.numberAt(function, i) : 0;
                }
            }
            reached[function] = nodes;
            called[function] = callees;
        }

        boolean reaches(int function, int node) {
            return contains(reached[function], node);
        }

        int callers(int function) {
            int callers = 0;
            for (int caller = 0; caller < FUNCTIONS; caller++) {
                if (contains(called[caller], function)) {
                    callers |= 1 << caller;
                }
            }
            return callers;
        }

        /** The functions that a function calls, directly or by others. */
        int calledInAll(int function) {
            int all = called[function];
            // A chain of calls without a repetition is at most as long as there are functions.
            for (int round = 1; round < FUNCTIONS; round++) {
                int more = all;
                for (int callee = 0; callee < FUNCTIONS; callee++) {
                    more |= contains(all, callee) ? called[callee] : 0;
                }
                all = more;
            }
            return all;
        }
    }

    /** What is known of the values of registers and of places of the stack. */
    private static final class Values {
        static final int UNKNOWN = -1;
        static final int NOT_REACHED = -1;
        /** A row of what is known has the registers first, then the places of the stack. */
        static final int PLACES = REGISTERS + STACK_LIMIT;

        final Code code;
        final Flow flow;
        final boolean[] balanced = new boolean[FUNCTIONS];
        final int[] kept = new int[FUNCTIONS];
        final int[] depths = new int[FUNCTIONS * NODES];
        final int[] known = new int[NODES * PLACES];
        final int[] row = new int[PLACES];
        /** The nodes whose rows of known values hold something in this pass. */
        int filled = 0;

        Values(Code code, Flow flow) {
            this.code = code;
            this.flow = flow;
        }

        int clobbered(int function) {
            return ALL_REGISTERS & ~kept[function];
        }

        void infer() {
            for (int function = 0; function < FUNCTIONS; function++) {
                balanced[function] = measure(function);
                kept[function] = balanced[function] ? ALL_REGISTERS : 0;
            }
            boolean isChanged = true;
            // Each round but the last takes a register from a set, so the sets bound the rounds.
            for (int round = 0; isChanged && round <= FUNCTIONS * REGISTERS; round++) {
                isChanged = false;
                for (int function = 0; function < FUNCTIONS; function++) {
                    int now = balanced[function] ? keptBy(function) : 0;
                    if (now != kept[function]) {
                        kept[function] = now;
                        isChanged = true;
                    }
                }
            }
        }

        /** Finds the depth of the stack at each node; answers whether the function is balanced. */
        private boolean measure(int function) {
            int base = function * NODES;
            for (int node = 0; node < NODES; node++) {
                depths[base + node] = NOT_REACHED;
            }
            depths[base + code.entry(function)] = 0;
            for (int i = 0; i < code.counts[function]; i++) {
                if (depths[base + i] != NOT_REACHED) {
                    int depth = depths[base + i] + growth(code.kindAt(function, i));
                    if (depth < 0 || depth > STACK_LIMIT
                            || !agrees(base + code.next(function, i), depth)
                            || !agrees(base + code.other(function, i), depth)) {
                        return false;
                    }
                }
            }
            return depths[base + EXIT] == 0;
        }

        private static int growth(char kind) {
            if (kind == PUSH) {
                return 1;
            }
            return kind == POP ? -1 : 0;
        }

        private boolean agrees(int place, int depth) {
            if (depths[place] == NOT_REACHED) {
                depths[place] = depth;
            }
            return depths[place] == depth;
        }

        /** The registers that a balanced function preserves if the sets of the others are right. */
        private int keptBy(int function) {
            for (int place = 0; place < PLACES; place++) {
                row[place] = place < REGISTERS ? place : UNKNOWN;
            }
            filled = 0;
            merge(code.entry(function));
            for (int i = 0; i < code.counts[function]; i++) {
                if (flow.reaches(function, i)) {
                    System.arraycopy(known, i * PLACES, row, 0, PLACES);
                    step(function, i);
                    int next = code.next(function, i);
                    int other = code.other(function, i);
                    merge(next);
                    if (other != next) {
                        merge(other);
                    }
                }
            }
            int own = 0;
            for (int register = 0; register < REGISTERS; register++) {
                if (known[EXIT * PLACES + register] == register) {
                    own |= 1 << register;
                }
            }
            return own;
        }

        /** Lets the row flow into a node: what paths do not agree on is unknown. */
        private void merge(int node) {
            boolean isFirst = !contains(filled, node);
            for (int place = 0; place < PLACES; place++) {
                int at = node * PLACES + place;
                if (isFirst) {
                    known[at] = row[place];
                } else if (known[at] != row[place]) {
                    known[at] = UNKNOWN;
                }
            }
            filled |= 1 << node;
        }

        /** Carries the row over an instruction; the function is balanced, so the stack has room. */
        private void step(int function, int index) {
            char kind = code.kindAt(function, index);
            int number = code.numberAt(function, index);
            int depth = depths[function * NODES + index];
            if (kind == DEFINE) {
                row[number] = UNKNOWN;
            } else if (kind == MOVE) {
                row[number / 10] = row[number % 10];
            } else if (kind == PUSH && depth < STACK_LIMIT) {
                row[REGISTERS + depth] = row[number];
            } else if (kind == POP && depth > 0) {
                row[number] = row[REGISTERS + depth - 1];
            } else if (kind == CALL) {
                forget(clobbered(number));
            }
        }

        private void forget(int lost) {
            for (int register = 0; register < REGISTERS; register++) {
                if (contains(lost, register)) {
                    row[register] = UNKNOWN;
                }
            }
        }
    }

    /** The registers that functions surely define. */
    private static final class Definitions {
        final Code code;
        final Flow flow;
        final int[] sure = new int[FUNCTIONS];
        final int[] written = new int[NODES];

        Definitions(Code code, Flow flow) {
            this.code = code;
            this.flow = flow;
        }

        void infer() {
            Arrays.fill(sure, 0);
            boolean isChanged = true;
            // Each round but the last adds a register to a set, so the sets bound the rounds.
            for (int round = 0; isChanged && round <= FUNCTIONS * REGISTERS; round++) {
                isChanged = false;
                for (int function = 0; function < FUNCTIONS; function++) {
                    int now = definedBy(function);
                    if (now != sure[function]) {
                        sure[function] = now;
                        isChanged = true;
                    }
                }
            }
        }

        /** The registers written on all paths to the exit if the sets of the others are right. */
        private int definedBy(int function) {
            Arrays.fill(written, ALL_REGISTERS);
            written[code.entry(function)] = 0;
            for (int i = 0; i < code.counts[function]; i++) {
                if (flow.reaches(function, i)) {
                    int now = written[i] | definedAt(function, i);
                    written[code.next(function, i)] &= now;
                    written[code.other(function, i)] &= now;
                }
            }
            return written[EXIT];
        }

        private int definedAt(int function, int index) {
            if (code.isCall(function, index)) {
                return sure[code.numberAt(function, index)];
            }
            return code.writtenBy(function, index);
        }
    }

    /** Live registers, and the arguments and results of functions. */
    private static final class Liveness {
        final Code code;
        final Flow flow;
        final Values values;
        final Definitions definitions;
        final int[] live = new int[FUNCTIONS * NODES];
        final int[] taken = new int[FUNCTIONS];
        final int[] given = new int[FUNCTIONS];

        Liveness(Code code, Flow flow, Values values, Definitions definitions) {
            this.code = code;
            this.flow = flow;
            this.values = values;
            this.definitions = definitions;
        }

        int before(int function, int node) {
            return live[function * NODES + node];
        }

        int behind(int function, int index) {
            return before(function, code.next(function, index)) | before(function, code.other(function, index));
        }

        void infer() {
            Arrays.fill(live, 0);
            Arrays.fill(taken, 0);
            Arrays.fill(given, 0);
            boolean isChanged = true;
            // Each round but the last adds an argument or a result, so these bound the rounds.
            for (int round = 0; isChanged && round <= 2 * FUNCTIONS * REGISTERS; round++) {
                isChanged = false;
                for (int function = 0; function < FUNCTIONS; function++) {
                    if (trace(function)) {
                        isChanged = true;
                    }
                }
            }
        }

        /** Goes through a body from its end; answers whether arguments or results were added. */
        private boolean trace(int function) {
            boolean isChanged = false;
            live[function * NODES + EXIT] = given[function];
            for (int i = code.counts[function] - 1; i >= 0; i--) {
                if (flow.reaches(function, i)) {
                    int behind = behind(function, i);
                    if (code.isCall(function, i) && ask(code.numberAt(function, i), behind)) {
                        isChanged = true;
                    }
                    live[function * NODES + i] = readAt(function, i) | (behind & ~writtenAt(function, i));
                }
            }
            int now = before(function, code.entry(function));
            if (now != taken[function]) {
                taken[function] = now;
                isChanged = true;
            }
            return isChanged;
        }

        /** Makes those of the wanted registers results that the function can give. */
        private boolean ask(int function, int wanted) {
            int now = given[function] | (wanted & values.clobbered(function) & definitions.sure[function]);
            boolean isChanged = now != given[function];
            given[function] = now;
            return isChanged;
        }

        private int readAt(int function, int index) {
            if (code.isCall(function, index)) {
                return taken[code.numberAt(function, index)];
            }
            return code.readBy(function, index);
        }

        private int writtenAt(int function, int index) {
            if (code.isCall(function, index)) {
                return values.clobbered(code.numberAt(function, index));
            }
            return code.writtenBy(function, index);
        }
    }

    /** The call sites, and the slots that are passed there and needed by functions. */
    private static final class Sites {
        final Code code;
        final Flow flow;
        final int[] callers = new int[FUNCTIONS * BODY_LIMIT];
        final int[] indices = new int[FUNCTIONS * BODY_LIMIT];
        final int[] callees = new int[FUNCTIONS * BODY_LIMIT];
        final int[] passed = new int[FUNCTIONS * BODY_LIMIT];
        final int[] needed = new int[FUNCTIONS];
        final int[] stored = new int[NODES];
        int count = 0;

        Sites(Code code, Flow flow) {
            this.code = code;
            this.flow = flow;
        }

        void infer() {
            count = 0;
            for (int function = 0; function < FUNCTIONS; function++) {
                needed[function] = 0;
                collect(function);
            }
        }

        private void collect(int function) {
            Arrays.fill(stored, ALL_SLOTS);
            stored[code.entry(function)] = 0;
            for (int i = 0; i < code.counts[function]; i++) {
                if (flow.reaches(function, i)) {
                    visit(function, i);
                    int now = storedBehind(function, i);
                    stored[code.next(function, i)] &= now;
                    stored[code.other(function, i)] &= now;
                }
            }
        }

        private void visit(int function, int index) {
            char kind = code.kindAt(function, index);
            int number = code.numberAt(function, index);
            if (kind == LOAD) {
                needed[function] = Math.max(needed[function], number + 1);
            } else if (kind == CALL && count < FUNCTIONS * BODY_LIMIT) {
                callers[count] = function;
                indices[count] = index;
                callees[count] = number;
                passed[count] = stored[index];
                count++;
            }
        }

        /** A call uses up the stores before it. */
        private int storedBehind(int function, int index) {
            char kind = code.kindAt(function, index);
            if (kind == CALL) {
                return 0;
            }
            int stores = kind == STORE ? 1 << code.numberAt(function, index) : 0;
            return stored[index] | stores;
        }

        int missing(int site) {
            int wanted = (1 << needed[callees[site]]) - 1;
            return wanted & ~passed[site];
        }

        boolean differFor(int function) {
            int first = -1;
            for (int site = 0; site < count; site++) {
                if (callees[site] == function) {
                    if (first >= 0 && passed[site] != passed[first]) {
                        return true;
                    }
                    first = site;
                }
            }
            return false;
        }
    }

    /** Executes functions; the value q below REGISTERS is the initial one of register q. */
    private static final class Machine {
        /** Each turn executes an instruction or ends an activation that a call has opened. */
        static final int TURN_LIMIT = 2 * STEP_LIMIT + 2;

        final Code code;
        final int[] registers = new int[REGISTERS];
        final int[] functions = new int[ACTIVATION_LIMIT];
        final int[] positions = new int[ACTIVATION_LIMIT];
        final int[] depths = new int[ACTIVATION_LIMIT];
        final int[] stacks = new int[ACTIVATION_LIMIT * STACK_LIMIT];
        int open = 0;
        int steps = 0;
        int branches = 0;
        int choices = 0;
        int freshValue = REGISTERS;
        boolean wasCut = false;

        Machine(Code code) {
            this.code = code;
        }

        void execute(int function, int wantedChoices) {
            for (int register = 0; register < REGISTERS; register++) {
                registers[register] = register;
            }
            open = 0;
            steps = 0;
            branches = 0;
            choices = wantedChoices;
            freshValue = REGISTERS;
            wasCut = false;
            enter(function);
            for (int turn = 0; turn < TURN_LIMIT && open > 0 && !wasCut; turn++) {
                advance(open - 1);
            }
        }

        private void enter(int function) {
            functions[open] = function;
            positions[open] = 0;
            depths[open] = 0;
            open++;
        }

        private void advance(int top) {
            int function = functions[top];
            int index = positions[top];
            if (index >= code.counts[function]) {
                open--;
                return;
            }
            char kind = code.kindAt(function, index);
            if (steps >= STEP_LIMIT || isBlocked(kind, depths[top])) {
                wasCut = true;
                return;
            }
            steps++;
            positions[top]++;
            perform(kind, code.numberAt(function, index), top);
        }

        private boolean isBlocked(char kind, int depth) {
            return (kind == POP && depth <= 0)
                    || (kind == PUSH && depth >= STACK_LIMIT)
                    || (kind == CALL && open >= ACTIVATION_LIMIT);
        }

        private void perform(char kind, int number, int top) {
            if (kind == DEFINE) {
                registers[number] = freshValue;
                freshValue++;
            } else if (kind == MOVE) {
                registers[number / 10] = registers[number % 10];
            } else if (kind == PUSH) {
                stacks[top * STACK_LIMIT + depths[top]] = registers[number];
                depths[top]++;
            } else if (kind == POP) {
                depths[top]--;
                registers[number] = stacks[top * STACK_LIMIT + depths[top]];
            } else if (kind == CALL) {
                enter(number);
            } else if (kind == BRANCH) {
                positions[top] += isTaken() ? number : 0;
            } else if (kind == RETURN) {
                open--;
            }
        }

        private boolean isTaken() {
            boolean taken = contains(choices, branches % 32);
            branches++;
            return taken;
        }
    }
}
