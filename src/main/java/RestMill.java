import java.util.Arrays;
import java.util.NoSuchElementException;

/** Numbers by their rests: eight registers over moduli without common divisors. */
public final class RestMill {
    public static final int NONE = -1;
    public static final int NO_ERROR = 0;
    public static final int SYNTAX = 1;
    public static final int OUT_OF_RANGE = 2;
    public static final int REPEATED = 3;
    public static final int COMMON = 4;
    public static final int TOO_MANY = 5;

    private static final int REGISTERS = 8;
    private static final int LEAST_MODULI = 2;
    private static final int MOST_MODULI = 6;
    private static final int LEAST_MODULUS = 2;
    private static final int GREATEST_MODULUS = 97;
    private static final int MOST_CHECKS = 2;
    private static final long GREATEST_WHOLE = 1000000000L;
    private static final int GREATEST_SET = 1000000000;
    private static final int LEAST_BY = 2;
    private static final int GREATEST_BY = 9999;
    private static final int INPUT_SIZE = 500;
    private static final int APPENDED_BYTES = 20;
    private static final int MOST_DIGITS = 9;
    private static final int MOST_STATEMENTS = 20;
    private static final int MOST_OPEN = 6;
    private static final int MOST_CHANGES = 8;

    // One more than can be undone: a change is noted before it is known whether it will be done.
    private static final int CHANGE_SLOTS = 9;

    private static final int SUM = 0;
    private static final int DIFFERENCE = 1;
    private static final int PRODUCT = 2;
    private static final int QUOTIENT = 3;
    private static final int REMAINDER = 4;

    // The accounts 1 to 5 bear the numbers of the reasons.
    private static final int ACCOUNTS = 8;
    private static final int DONE = 0;
    private static final int DIVISOR_IS_ZERO = 1;
    private static final int NOT_SOUND = 2;
    private static final int NOT_MENDABLE = 3;
    private static final int MODULI_CANNOT_BE = 4;
    private static final int DOES_NOT_FIT = 5;
    private static final int DONE_NOT_SOUND = 6;
    private static final int STATEMENTS_DONE = 7;

    // A token that is a single byte has that byte as its kind, so all other kinds lie above 255.
    private static final int END = 256;
    private static final int BAD = 257;
    private static final int NUMERAL = 258;
    private static final int REGISTER = 259;
    private static final int WORD_MODULI = 260;
    private static final int WORD_CHECKS = 261;
    private static final int WORD_STRICT = 262;
    private static final int WORD_SET = 263;
    private static final int WORD_SCALE = 264;
    private static final int WORD_SWAP = 265;
    private static final int WORD_MEND = 266;

    // The steps from GIVE on end a statement.
    private static final int TAKE_NUMBER = 0;
    private static final int TAKE_REGISTER = 1;
    private static final int OPERATE = 2;
    private static final int GIVE = 3;
    private static final int SCALE = 4;
    private static final int SWAP = 5;
    private static final int MEND = 6;
    private static final int STRICT = 7;

    // A "-" ahead of a factor gives two steps, any other token at most one.
    private static final int MOST_STEPS = 1000;

    // Each of seven levels leaves at most three open: of its sum, of its product, the 0 of a "-".
    private static final int MOST_PENDING = 32;

    private final byte[] input;
    private int inputLength;
    private final Mill mill;
    private final Mill draft;
    private final Mill saved;
    private boolean hasSaved;
    private final Changes changes;
    private final SetupReader setupReader;
    private final ScriptReader scriptReader;
    private int lastError;
    private int lastErrorOffset;
    private final StringBuilder output;

    public RestMill() {
        input = new byte[INPUT_SIZE];
        mill = new Mill();
        draft = new Mill();
        saved = new Mill();
        changes = new Changes();
        setupReader = new SetupReader();
        scriptReader = new ScriptReader();
        lastError = NO_ERROR;
        lastErrorOffset = -1;
        output = new StringBuilder();
        mill.moduli.insert(7);
        mill.moduli.insert(11);
        mill.moduli.insert(13);
        mill.moduli.setChecks(1);
    }

    public int appendInput(int a, int b, int c, int d, int e) {
        if (inputLength + APPENDED_BYTES > INPUT_SIZE) {
            return -1;
        }
        appendFour(a);
        appendFour(b);
        appendFour(c);
        appendFour(d);
        appendFour(e);
        return inputLength;
    }

    public boolean truncateInput(int length) {
        if (length < 0 || length > inputLength) {
            return false;
        }
        inputLength = length;
        return true;
    }

    public int loadMill() {
        setupReader.tokens.read(input, inputLength);
        boolean isRead = setupReader.readSetup(draft);
        endText(setupReader.tokens);
        if (!isRead) {
            return -1;
        }
        mill.copyFrom(draft);
        changes.clear();
        hasSaved = false;
        return mill.moduli.size;
    }

    public int playScript() {
        scriptReader.tokens.read(input, inputLength);
        boolean isRead = scriptReader.readScript(mill);
        endText(scriptReader.tokens);
        if (!isRead) {
            return -1;
        }
        changes.prepare(mill);
        changes.keep();
        return scriptReader.program.play(mill);
    }

    public int errorCode() {
        return lastError;
    }

    public int errorOffset() {
        return lastErrorOffset;
    }

    public int count(int what) throws IllegalArgumentException {
        switch (what) {
            case 0:
                return mill.moduli.size;
            case 1:
                return mill.moduli.checks;
            case 2:
                return mill.strict;
            case 3:
                return mill.soundRegisters();
            case 4:
                return mill.registersWithSign(0);
            case 5:
                return mill.registersWithSign(-1);
            case 6:
                return changes.size;
            default:
                throw new IllegalArgumentException();
        }
    }

    public int account(int what) throws IllegalArgumentException {
        if (what < 0 || what >= ACCOUNTS) {
            throw new IllegalArgumentException();
        }
        return mill.accountAt(what);
    }

    public long bound(int what) throws IllegalArgumentException {
        switch (what) {
            case 0:
                return mill.moduli.range;
            case 1:
                return mill.moduli.whole;
            case 2:
                return mill.moduli.half();
            default:
                throw new IllegalArgumentException();
        }
    }

    public int modulus(int modulus) throws IndexOutOfBoundsException {
        needModulus(modulus);
        return mill.moduli.at(modulus);
    }

    public int inverse(int modulus, int by) throws IndexOutOfBoundsException {
        needModulus(modulus);
        needModulus(by);
        return modulus == by ? 0 : inverseOf(mill.moduli.at(modulus), mill.moduli.at(by));
    }

    public long weight(int modulus) throws IndexOutOfBoundsException {
        needModulus(modulus);
        return mill.moduli.weightAt(modulus);
    }

    public int rest(int register, int modulus) throws IndexOutOfBoundsException {
        needRegister(register);
        needModulus(modulus);
        return mill.restAt(register, modulus);
    }

    public int digit(int register, int index) throws IndexOutOfBoundsException {
        needRegister(register);
        needModulus(index);
        return mill.digitAt(register, index);
    }

    public long part(int register, int modulus) throws IndexOutOfBoundsException {
        needRegister(register);
        needModulus(modulus);
        return mill.partAt(register, modulus);
    }

    public int rank(int register) throws IndexOutOfBoundsException {
        needRegister(register);
        return (int) floorQuotient(mill.sumOfParts(register), mill.moduli.whole);
    }

    public long value(int register) throws IndexOutOfBoundsException {
        needRegister(register);
        return mill.valueAt(register);
    }

    public long number(int register) throws IndexOutOfBoundsException {
        needRegister(register);
        return mill.numberAt(register);
    }

    public boolean isSound(int register) throws IndexOutOfBoundsException {
        needRegister(register);
        return mill.soundAt(register);
    }

    public int compare(int register, int other) throws IndexOutOfBoundsException {
        needRegister(register);
        needRegister(other);
        return mill.orderOf(register, other);
    }

    public int extend(int register, int by, boolean ofNumber)
            throws IndexOutOfBoundsException, IllegalArgumentException {
        needRegister(register);
        if (by < LEAST_BY || by > GREATEST_BY) {
            throw new IllegalArgumentException();
        }
        return (int) floorRest(ofNumber ? mill.numberAt(register) : mill.valueAt(register), by);
    }

    public long gap() {
        long sum = 0;
        for (int register = 0; register < REGISTERS; register++) {
            long byParts = floorRest(mill.sumOfParts(register), mill.moduli.whole);
            sum += Math.abs(mill.valueByDigits(register) - byParts);
        }
        return sum;
    }

    public int distance(int register, int other) throws IndexOutOfBoundsException {
        needRegister(register);
        needRegister(other);
        return mill.differentRests(register, other);
    }

    public long exact(int operation, int register, int other)
            throws IllegalArgumentException, IndexOutOfBoundsException, IllegalStateException {
        needOperation(operation);
        needRegister(register);
        needRegister(other);
        if (divides(operation) && mill.numberAt(other) == 0) {
            throw new IllegalStateException();
        }
        return exactOf(operation, mill.numberAt(register), mill.numberAt(other));
    }

    public int why(int operation, int register, int other)
            throws IllegalArgumentException, IndexOutOfBoundsException {
        needOperation(operation);
        needRegister(register);
        needRegister(other);
        long first = mill.numberAt(register);
        long second = mill.numberAt(other);
        int reason = mill.reasonOf(operation, first, second);
        if (reason != 0) {
            return reason;
        }
        long exactResult = exactOf(operation, first, second);
        return numberIn(exactResult, mill.moduli.whole) == exactResult ? 0 : DONE_NOT_SOUND;
    }

    public int faults(int register) throws IndexOutOfBoundsException {
        needRegister(register);
        return mill.faultsAt(register);
    }

    public long numberWith(int register, int modulus, int rest)
            throws IndexOutOfBoundsException, IllegalArgumentException {
        needRegister(register);
        needModulus(modulus);
        needRest(modulus, rest);
        return mill.numberWithRest(register, modulus, rest);
    }

    public int nextModulus() {
        for (int modulus = LEAST_MODULUS; modulus <= GREATEST_MODULUS; modulus++) {
            if (mill.moduli.canTake(modulus)) {
                return modulus;
            }
        }
        return NONE;
    }

    public int spare() {
        int set = 0;
        for (int k = 0; k < mill.moduli.size; k++) {
            if (mill.canDrop(k)) {
                set |= 1 << k;
            }
        }
        return set;
    }

    public int greatest() {
        int best = 0;
        for (int register = 1; register < REGISTERS; register++) {
            if (Math.abs(mill.numberAt(register)) > Math.abs(mill.numberAt(best))) {
                best = register;
            }
        }
        return best;
    }

    public double mean() {
        long sum = 0;
        for (int register = 0; register < REGISTERS; register++) {
            sum += mill.numberAt(register);
        }
        return (double) sum / (double) REGISTERS;
    }

    public float zeroShare() {
        int zeros = 0;
        for (int register = 0; register < REGISTERS; register++) {
            zeros += mill.zeroRests(register);
        }
        int all = REGISTERS * mill.moduli.size;
        return all < 1 ? 0.0f : (float) zeros / (float) all;
    }

    public int set(int register, int number) throws IndexOutOfBoundsException, IllegalArgumentException {
        needRegister(register);
        if (number < -GREATEST_SET || number > GREATEST_SET) {
            throw new IllegalArgumentException();
        }
        changes.prepare(mill);
        return changes.keepIfDone(mill.actSet(register, number));
    }

    public int hurt(int register, int modulus, int rest)
            throws IndexOutOfBoundsException, IllegalArgumentException {
        needRegister(register);
        needModulus(modulus);
        needRest(modulus, rest);
        changes.prepare(mill);
        changes.keep();
        int before = mill.restAt(register, modulus);
        mill.put(register, mill.numberWithRest(register, modulus, rest));
        return before;
    }

    public int operate(int operation, int to, int register, int other)
            throws IllegalArgumentException, IndexOutOfBoundsException {
        needOperation(operation);
        needRegister(to);
        needRegister(register);
        needRegister(other);
        changes.prepare(mill);
        return changes.keepIfDone(mill.actOperate(operation, to, register, other));
    }

    public int scale(int register, int modulus) throws IndexOutOfBoundsException {
        needRegister(register);
        needModulus(modulus);
        changes.prepare(mill);
        return changes.keepIfDone(mill.actScale(register, modulus));
    }

    public int mend(int register) throws IndexOutOfBoundsException {
        needRegister(register);
        changes.prepare(mill);
        return changes.keepIfDone(mill.actMend(register));
    }

    public int swap(int register, int other) throws IndexOutOfBoundsException {
        needRegister(register);
        needRegister(other);
        changes.prepare(mill);
        changes.keep();
        mill.exchange(register, other);
        return mill.orderOf(register, other);
    }

    public int grow(int modulus) throws IllegalArgumentException {
        if (modulus < LEAST_MODULUS || modulus > GREATEST_MODULUS) {
            throw new IllegalArgumentException();
        }
        changes.prepare(mill);
        return changes.keepIfDone(mill.actGrow(modulus));
    }

    public int drop(int modulus) throws IndexOutOfBoundsException {
        needModulus(modulus);
        changes.prepare(mill);
        return changes.keepIfDone(mill.actDrop(modulus));
    }

    public int setStrict(int strict) throws IllegalArgumentException {
        if (strict < 0 || strict > 1) {
            throw new IllegalArgumentException();
        }
        changes.prepare(mill);
        changes.keep();
        int before = mill.strict;
        mill.strict = strict;
        return before;
    }

    public int undo() throws NoSuchElementException {
        if (changes.size < 1) {
            throw new NoSuchElementException();
        }
        changes.takeBack(mill);
        return changes.size;
    }

    public int printRegister(int register) throws IndexOutOfBoundsException {
        needRegister(register);
        output.setLength(0);
        output.append((char) ('a' + register));
        output.append("=(");
        for (int k = 0; k < mill.moduli.size; k++) {
            if (k > 0) {
                output.append(',');
            }
            output.append(mill.restAt(register, k));
        }
        output.append(")=");
        output.append((int) mill.numberAt(register));
        if (!mill.soundAt(register)) {
            output.append('!');
        }
        return output.length();
    }

    public int printModuli() {
        output.setLength(0);
        for (int k = 0; k < mill.moduli.size; k++) {
            if (k > 0) {
                output.append(' ');
            }
            output.append(mill.moduli.at(k));
            if (k >= mill.moduli.bases()) {
                output.append('?');
            }
        }
        return output.length();
    }

    public int outputByte(int index) {
        return index < 0 || index >= output.length() ? -1 : output.charAt(index);
    }

    public int saveState() {
        saved.copyFrom(mill);
        hasSaved = true;
        return mill.moduli.size;
    }

    public int restoreState() throws NoSuchElementException {
        if (!hasSaved) {
            throw new NoSuchElementException();
        }
        mill.copyFrom(saved);
        changes.clear();
        return mill.moduli.size;
    }

    private void appendFour(int bytes) {
        for (int shift = 24; shift >= 0; shift -= 8) {
            if (inputLength >= 0 && inputLength < input.length) {
                input[inputLength] = (byte) (bytes >> shift);
                inputLength++;
            }
        }
    }

    private void endText(Tokens tokens) {
        inputLength = 0;
        lastError = tokens.error;
        lastErrorOffset = tokens.errorOffset;
    }

    private void needRegister(int register) {
        if (register < 0 || register >= REGISTERS) {
            throw new IndexOutOfBoundsException();
        }
    }

    private void needModulus(int modulus) {
        if (modulus < 0 || modulus >= mill.moduli.size) {
            throw new IndexOutOfBoundsException();
        }
    }

    private void needRest(int modulus, int rest) {
        if (rest < 0 || rest >= mill.moduli.at(modulus)) {
            throw new IllegalArgumentException();
        }
    }

    private void needOperation(int operation) {
        if (operation < SUM || operation > REMAINDER) {
            throw new IllegalArgumentException();
        }
    }

    private static boolean divides(int operation) {
        return operation == QUOTIENT || operation == REMAINDER;
    }

    private static long floorRest(long number, long by) {
        return by < 1 ? 0 : Math.floorMod(number, by);
    }

    private static long floorQuotient(long number, long by) {
        return by == 0 ? 0 : Math.floorDiv(number, by);
    }

    /** NUMBER of the rests of a number, by moduli whose product is a whole. */
    private static long numberIn(long number, long whole) {
        if (whole < 1) {
            return 0;
        }
        long value = Math.floorMod(number, whole);
        return value <= (whole - 1) / 2 ? value : value - whole;
    }

    /** Without any moduli; who asks has seen to it that nothing is divided by 0. */
    private static long exactOf(int operation, long first, long second) {
        switch (operation) {
            case SUM:
                return first + second;
            case DIFFERENCE:
                return first - second;
            case PRODUCT:
                return first * second;
            case QUOTIENT:
                return floorQuotient(first, second);
            default:
                return first - second * floorQuotient(first, second);
        }
    }

    private static void copyRow(int[] from, int[] to) {
        for (int k = 0; k < from.length && k < to.length; k++) {
            to[k] = from[k];
        }
    }

    private static void copyRow(long[] from, long[] to) {
        for (int k = 0; k < from.length && k < to.length; k++) {
            to[k] = from[k];
        }
    }

    private static int greatestDivisor(int first, int second) {
        int a = first;
        int b = second;
        // The rest at least halves with every second round, so that 64 rounds do for any int.
        for (int round = 0; round < 64 && b > 0; round++) {
            int left = a % b;
            a = b;
            b = left;
        }
        return a;
    }

    private static int inverseOf(long number, int by) {
        long base = floorRest(number, by);
        for (int candidate = 1; candidate < by; candidate++) {
            if (floorRest(base * candidate, by) == 1) {
                return candidate;
            }
        }
        return 0;
    }

    /** The moduli, bases ahead of checks, and what follows from them alone. */
    private static final class Moduli {
        private final int[] row;
        private final long[] weights;
        int size;
        int checks;
        long whole;
        long range;

        Moduli() {
            row = new int[MOST_MODULI];
            weights = new long[MOST_MODULI];
            whole = 1;
            range = 1;
        }

        void copyFrom(Moduli other) {
            copyRow(other.row, row);
            copyRow(other.weights, weights);
            size = other.size;
            checks = other.checks;
            whole = other.whole;
            range = other.range;
        }

        void clear() {
            size = 0;
            checks = 0;
            measure();
        }

        /** 1 for a modulus that is none: it divides without harm. */
        int at(int k) {
            return k < 0 || k >= size || k >= row.length ? 1 : row[k];
        }

        long weightAt(int k) {
            return k < 0 || k >= size || k >= weights.length ? 0 : weights[k];
        }

        int bases() {
            return size - checks;
        }

        long half() {
            return (range - 1) / 2;
        }

        boolean fits(long number) {
            return number >= -half() && number <= half();
        }

        boolean tooGreatWith(int modulus) {
            return whole * modulus > GREATEST_WHOLE;
        }

        boolean hasCommonWith(int modulus) {
            for (int k = 0; k < size; k++) {
                if (greatestDivisor(at(k), modulus) > 1) {
                    return true;
                }
            }
            return false;
        }

        boolean canTake(int modulus) {
            return size < MOST_MODULI && !tooGreatWith(modulus) && !hasCommonWith(modulus);
        }

        /** As the last one of the bases. */
        void insert(int modulus) {
            int place = bases();
            if (size >= row.length || place < 0 || place > size) {
                return;
            }
            for (int k = size; k > place; k--) {
                row[k] = row[k - 1];
            }
            row[place] = modulus;
            size++;
            measure();
        }

        void remove(int modulus) {
            if (modulus < 0 || modulus >= size) {
                return;
            }
            if (modulus >= bases()) {
                checks--;
            }
            for (int k = modulus; k + 1 < size && k + 1 < row.length; k++) {
                row[k] = row[k + 1];
            }
            size--;
            measure();
        }

        void setChecks(int number) {
            checks = number;
            measure();
        }

        private void measure() {
            whole = 1;
            range = 1;
            for (int k = 0; k < size; k++) {
                whole *= at(k);
                if (k < bases()) {
                    range *= at(k);
                }
            }
            for (int k = 0; k < size && k < weights.length; k++) {
                long others = floorQuotient(whole, at(k));
                weights[k] = others * inverseOf(others, at(k));
            }
        }

        /** Whether the moduli but one still tell a number. */
        boolean tellWithout(int modulus, long number) {
            return numberIn(number, floorQuotient(whole, at(modulus))) == number;
        }
    }

    /**
     * All that undo() and restoreState() bring back. A register is held as its NUMBER: that tells
     * all its rests, and it is what stays when moduli come and go.
     */
    private static final class Mill {
        final Moduli moduli;
        private final long[] numbers;
        private final int[] accounts;
        int strict;

        Mill() {
            moduli = new Moduli();
            numbers = new long[REGISTERS];
            accounts = new int[ACCOUNTS];
        }

        void copyFrom(Mill other) {
            moduli.copyFrom(other.moduli);
            copyRow(other.numbers, numbers);
            copyRow(other.accounts, accounts);
            strict = other.strict;
        }

        void clear() {
            moduli.clear();
            Arrays.fill(numbers, 0L);
            Arrays.fill(accounts, 0);
            strict = 0;
        }

        int accountAt(int account) {
            return account < 0 || account >= accounts.length ? 0 : accounts[account];
        }

        void book(int account) {
            if (account >= 0 && account < accounts.length) {
                accounts[account]++;
            }
        }

        int refuse(int reason) {
            book(reason);
            return reason;
        }

        long numberAt(int register) {
            return register < 0 || register >= numbers.length ? 0 : numbers[register];
        }

        void put(int register, long number) {
            if (register >= 0 && register < numbers.length) {
                numbers[register] = numberIn(number, moduli.whole);
            }
        }

        void exchange(int register, int other) {
            long number = numberAt(register);
            put(register, numberAt(other));
            put(other, number);
        }

        long valueAt(int register) {
            return floorRest(numberAt(register), moduli.whole);
        }

        int restAt(int register, int modulus) {
            return (int) floorRest(numberAt(register), moduli.at(modulus));
        }

        boolean soundAt(int register) {
            return moduli.fits(numberAt(register));
        }

        int orderOf(int register, int other) {
            return Long.compare(numberAt(register), numberAt(other));
        }

        int digitAt(int register, int index) {
            long left = valueAt(register);
            for (int k = 0; k < index && k < moduli.size; k++) {
                left = floorQuotient(left, moduli.at(k));
            }
            return (int) floorRest(left, moduli.at(index));
        }

        long valueByDigits(int register) {
            long sum = 0;
            long place = 1;
            for (int k = 0; k < moduli.size; k++) {
                sum += digitAt(register, k) * place;
                place *= moduli.at(k);
            }
            return sum;
        }

        long partAt(int register, int modulus) {
            return floorRest(restAt(register, modulus) * moduli.weightAt(modulus), moduli.whole);
        }

        long sumOfParts(int register) {
            long sum = 0;
            for (int k = 0; k < moduli.size; k++) {
                sum += partAt(register, k);
            }
            return sum;
        }

        int soundRegisters() {
            int found = 0;
            for (int register = 0; register < REGISTERS; register++) {
                if (soundAt(register)) {
                    found++;
                }
            }
            return found;
        }

        int registersWithSign(int sign) {
            int found = 0;
            for (int register = 0; register < REGISTERS; register++) {
                if (Long.compare(numberAt(register), 0) == sign) {
                    found++;
                }
            }
            return found;
        }

        int differentRests(int register, int other) {
            int found = 0;
            for (int k = 0; k < moduli.size; k++) {
                if (restAt(register, k) != restAt(other, k)) {
                    found++;
                }
            }
            return found;
        }

        int zeroRests(int register) {
            int found = 0;
            for (int k = 0; k < moduli.size; k++) {
                if (restAt(register, k) == 0) {
                    found++;
                }
            }
            return found;
        }

        long numberWithRest(int register, int modulus, int rest) {
            long further = (rest - restAt(register, modulus)) * moduli.weightAt(modulus);
            return numberIn(numberAt(register) + further, moduli.whole);
        }

        /** The least rest for a modulus with which a register is sound; NONE if there is none. */
        int soundRest(int register, int modulus) {
            long weight = moduli.weightAt(modulus);
            long number = numberAt(register) - restAt(register, modulus) * weight;
            for (int rest = 0; rest < moduli.at(modulus); rest++) {
                if (moduli.fits(numberIn(number, moduli.whole))) {
                    return rest;
                }
                number += weight;
            }
            return NONE;
        }

        int faultsAt(int register) {
            int set = 0;
            if (soundAt(register)) {
                return set;
            }
            for (int k = 0; k < moduli.size; k++) {
                if (soundRest(register, k) != NONE) {
                    set |= 1 << k;
                }
            }
            return set;
        }

        boolean canDrop(int modulus) {
            if (moduli.size <= LEAST_MODULI || moduli.bases() == 1 && modulus == 0) {
                return false;
            }
            for (int register = 0; register < REGISTERS; register++) {
                if (!moduli.tellWithout(modulus, numberAt(register))) {
                    return false;
                }
            }
            return true;
        }

        private boolean refusesResult(long exactResult) {
            return strict == 1 && !moduli.fits(numberIn(exactResult, moduli.whole));
        }

        /** The reason for which an operation on two NUMBERs is refused; 0 if it is not. */
        int reasonOf(int operation, long first, long second) {
            if (divides(operation) && second == 0) {
                return DIVISOR_IS_ZERO;
            }
            return refusesResult(exactOf(operation, first, second)) ? NOT_SOUND : 0;
        }

        /** The end of an act that is done and has a result. */
        int finish(int register, long exactResult) {
            put(register, exactResult);
            book(DONE);
            if (!soundAt(register)) {
                book(DONE_NOT_SOUND);
            }
            return 0;
        }

        int actSet(int register, int number) {
            return moduli.fits(number) ? finish(register, number) : refuse(DOES_NOT_FIT);
        }

        int actOperate(int operation, int to, int register, int other) {
            long first = numberAt(register);
            long second = numberAt(other);
            int reason = reasonOf(operation, first, second);
            return reason == 0 ? finish(to, exactOf(operation, first, second)) : refuse(reason);
        }

        int actScale(int register, int modulus) {
            long quotient = floorQuotient(numberAt(register), moduli.at(modulus));
            return refusesResult(quotient) ? refuse(NOT_SOUND) : finish(register, quotient);
        }

        int actMend(int register) {
            if (soundAt(register)) {
                return refuse(NOT_MENDABLE);
            }
            for (int k = 0; k < moduli.size; k++) {
                int rest = soundRest(register, k);
                if (rest != NONE) {
                    return finish(register, numberWithRest(register, k, rest));
                }
            }
            return refuse(NOT_MENDABLE);
        }

        int actGrow(int modulus) {
            if (!moduli.canTake(modulus)) {
                return refuse(MODULI_CANNOT_BE);
            }
            moduli.insert(modulus);
            book(DONE);
            return 0;
        }

        int actDrop(int modulus) {
            if (!canDrop(modulus)) {
                return refuse(MODULI_CANNOT_BE);
            }
            moduli.remove(modulus);
            book(DONE);
            return 0;
        }
    }

    /** The mills as they were ahead of the latest changes, in a ring that is made once. */
    private static final class Changes {
        private final Mill[] slots;
        private int next;
        int size;

        Changes() {
            slots = new Mill[CHANGE_SLOTS];
            for (int k = 0; k < CHANGE_SLOTS; k++) {
                slots[k] = new Mill();
            }
        }

        void clear() {
            size = 0;
        }

        /** Notes a mill ahead of a change, which keep() makes one that can be undone. */
        void prepare(Mill mill) {
            Mill slot = slotAt(next);
            if (slot != null) {
                slot.copyFrom(mill);
            }
        }

        void keep() {
            next = (next + 1) % CHANGE_SLOTS;
            size = Math.min(size + 1, MOST_CHANGES);
        }

        int keepIfDone(int reason) {
            if (reason == 0) {
                keep();
            }
            return reason;
        }

        void takeBack(Mill mill) {
            if (size < 1) {
                return;
            }
            next = (next + CHANGE_SLOTS - 1) % CHANGE_SLOTS;
            size--;
            Mill slot = slotAt(next);
            if (slot != null) {
                mill.copyFrom(slot);
            }
        }

        private Mill slotAt(int k) {
            return k < 0 || k >= slots.length ? null : slots[k];
        }
    }

    /** The tokens of the latest text, the one that is read now, and the first error met. */
    private static final class Tokens {
        private final int[] kinds;
        private final int[] amounts;
        private final int[] offsets;
        private int size;
        private int now;
        int error;
        int errorOffset;

        Tokens() {
            // Each byte may be a token, and the end is one more.
            kinds = new int[INPUT_SIZE + 1];
            amounts = new int[INPUT_SIZE + 1];
            offsets = new int[INPUT_SIZE + 1];
            error = NO_ERROR;
            errorOffset = -1;
        }

        void read(byte[] text, int length) {
            size = 0;
            now = 0;
            error = NO_ERROR;
            errorOffset = -1;
            int at = 0;
            for (int round = 0; round < INPUT_SIZE && at < length; round++) {
                at = readToken(text, at, length);
            }
            add(END, 0, length);
        }

        int kind() {
            return now < 0 || now >= size || now >= kinds.length ? END : kinds[now];
        }

        /** The number, or the number of the register, that the token names. */
        int amount() {
            return now < 0 || now >= size || now >= amounts.length ? 0 : amounts[now];
        }

        void move() {
            if (now + 1 < size) {
                now++;
            }
        }

        boolean take(int kind) {
            if (kind() != kind) {
                return fail(SYNTAX);
            }
            move();
            return true;
        }

        /** Takes a number that is from 0 to a greatest one. */
        boolean takeUpTo(long greatest) {
            if (kind() != NUMERAL) {
                return fail(SYNTAX);
            }
            if (amount() > greatest) {
                return fail(OUT_OF_RANGE);
            }
            move();
            return true;
        }

        /** Reports an error at the present token; false, so that a reader can hand it on. */
        boolean fail(int code) {
            error = code;
            errorOffset = now < 0 || now >= offsets.length ? 0 : offsets[now];
            return false;
        }

        private void add(int kind, int amount, int offset) {
            if (size >= 0 && size < kinds.length && size < amounts.length && size < offsets.length) {
                kinds[size] = kind;
                amounts[size] = amount;
                offsets[size] = offset;
                size++;
            }
        }

        private int readToken(byte[] text, int at, int length) {
            int sign = byteAt(text, at);
            if (sign == ' ' || sign == '\n') {
                return at + 1;
            }
            if (isLetter(sign)) {
                return readWord(text, at, length);
            }
            if (isDigit(sign)) {
                return readNumeral(text, at, length);
            }
            add(";=+-*/%()".indexOf((char) sign) >= 0 ? sign : BAD, 0, at);
            return at + 1;
        }

        private int readWord(byte[] text, int at, int length) {
            int end = at;
            while (end < length && isLetter(byteAt(text, end))) {
                end++;
            }
            int letter = byteAt(text, at) - 'a';
            if (end - at == 1 && letter < REGISTERS) {
                add(REGISTER, letter, at);
            } else {
                add(wordKind(text, at, end), 0, at);
            }
            return end;
        }

        private int readNumeral(byte[] text, int at, int length) {
            int end = at;
            int amount = 0;
            while (end < length && isDigit(byteAt(text, end))) {
                if (end - at < MOST_DIGITS) {
                    amount = amount * 10 + byteAt(text, end) - '0';
                }
                end++;
            }
            add(end - at <= MOST_DIGITS ? NUMERAL : BAD, amount, at);
            return end;
        }

        /** BAD for a word that can stand nowhere. */
        private static int wordKind(byte[] text, int at, int end) {
            if (isWord(text, at, end, "moduli")) {
                return WORD_MODULI;
            }
            if (isWord(text, at, end, "checks")) {
                return WORD_CHECKS;
            }
            if (isWord(text, at, end, "strict")) {
                return WORD_STRICT;
            }
            if (isWord(text, at, end, "set")) {
                return WORD_SET;
            }
            if (isWord(text, at, end, "scale")) {
                return WORD_SCALE;
            }
            if (isWord(text, at, end, "swap")) {
                return WORD_SWAP;
            }
            return isWord(text, at, end, "mend") ? WORD_MEND : BAD;
        }

        private static boolean isWord(byte[] text, int at, int end, String word) {
            if (end - at != word.length()) {
                return false;
            }
            for (int k = 0; k < word.length(); k++) {
                if (byteAt(text, at + k) != word.charAt(k)) {
                    return false;
                }
            }
            return true;
        }

        private static int byteAt(byte[] text, int at) {
            return at < 0 || at >= text.length ? 0 : text[at] & 255;
        }

        private static boolean isLetter(int sign) {
            return sign >= 'a' && sign <= 'z';
        }

        private static boolean isDigit(int sign) {
            return sign >= '0' && sign <= '9';
        }
    }

    /** Reads a setup into a mill that nobody asks until the setup has proved right. */
    private static final class SetupReader {
        final Tokens tokens;

        SetupReader() {
            tokens = new Tokens();
        }

        boolean readSetup(Mill draft) {
            draft.clear();
            return readModuli(draft.moduli) && readChecks(draft.moduli) && readStrict(draft) && readSets(draft);
        }

        private boolean readModuli(Moduli moduli) {
            if (!tokens.take(WORD_MODULI)) {
                return false;
            }
            // One round more than there may be moduli, for the ";" or the modulus too many.
            for (int k = 0; k <= MOST_MODULI; k++) {
                if (k >= LEAST_MODULI && tokens.kind() == ';') {
                    break;
                }
                int code = modulusError(moduli);
                if (code != NO_ERROR) {
                    return tokens.fail(code);
                }
                moduli.insert(tokens.amount());
                tokens.move();
            }
            return tokens.take(';');
        }

        private int modulusError(Moduli moduli) {
            int modulus = tokens.amount();
            if (tokens.kind() != NUMERAL) {
                return SYNTAX;
            }
            if (modulus < LEAST_MODULUS || modulus > GREATEST_MODULUS || moduli.tooGreatWith(modulus)) {
                return OUT_OF_RANGE;
            }
            if (moduli.hasCommonWith(modulus)) {
                return COMMON;
            }
            return moduli.size < MOST_MODULI ? NO_ERROR : TOO_MANY;
        }

        private boolean readChecks(Moduli moduli) {
            if (tokens.kind() != WORD_CHECKS) {
                return true;
            }
            tokens.move();
            int checks = tokens.amount();
            if (!tokens.takeUpTo(Math.min(MOST_CHECKS, moduli.size - 1))) {
                return false;
            }
            moduli.setChecks(checks);
            return tokens.take(';');
        }

        private boolean readStrict(Mill draft) {
            if (tokens.kind() != WORD_STRICT) {
                return true;
            }
            tokens.move();
            draft.strict = tokens.amount();
            return tokens.takeUpTo(1) && tokens.take(';');
        }

        private boolean readSets(Mill draft) {
            int known = 0;
            // One round more than there are registers: it meets the end or a register set again.
            for (int k = 0; k <= REGISTERS && tokens.kind() == WORD_SET; k++) {
                tokens.move();
                if (tokens.kind() != REGISTER) {
                    return tokens.fail(SYNTAX);
                }
                int bit = 1 << tokens.amount();
                if ((known & bit) != 0) {
                    return tokens.fail(REPEATED);
                }
                known |= bit;
                if (!readSet(draft)) {
                    return false;
                }
            }
            return tokens.take(END);
        }

        private boolean readSet(Mill draft) {
            int register = tokens.amount();
            tokens.move();
            boolean isNegative = tokens.kind() == '-';
            if (isNegative) {
                tokens.move();
            }
            int number = tokens.amount();
            if (!tokens.takeUpTo(draft.moduli.half())) {
                return false;
            }
            draft.put(register, isNegative ? -number : number);
            return tokens.take(';');
        }
    }

    /** Reads a script into a program; expressions get their steps in the order of the work. */
    private static final class ScriptReader {
        final Tokens tokens;
        final Program program;
        private int moduli;
        private long half;

        ScriptReader() {
            tokens = new Tokens();
            program = new Program();
        }

        boolean readScript(Mill mill) {
            program.clear();
            moduli = mill.moduli.size;
            half = mill.moduli.half();
            for (int k = 0; k < MOST_STATEMENTS; k++) {
                if (tokens.kind() == END) {
                    return true;
                }
                boolean isRead = tokens.kind() == REGISTER ? readGive() : readOrder();
                if (!isRead || !tokens.take(';')) {
                    return false;
                }
            }
            return startsStatement(tokens.kind()) ? tokens.fail(TOO_MANY) : tokens.take(END);
        }

        private static boolean startsStatement(int kind) {
            return kind == REGISTER || kind == WORD_SCALE || kind == WORD_SWAP || kind == WORD_MEND
                    || kind == WORD_STRICT;
        }

        private boolean readOrder() {
            int kind = tokens.kind();
            if (!startsStatement(kind)) {
                return tokens.fail(SYNTAX);
            }
            tokens.move();
            int first = tokens.amount();
            if (kind == WORD_STRICT) {
                program.add(STRICT, first, 0);
                return tokens.takeUpTo(1);
            }
            if (!tokens.take(REGISTER)) {
                return false;
            }
            int second = tokens.amount();
            if (kind == WORD_SCALE) {
                program.add(SCALE, first, second);
                return tokens.takeUpTo(moduli - 1);
            }
            if (kind == WORD_SWAP) {
                program.add(SWAP, first, second);
                return tokens.take(REGISTER);
            }
            program.add(MEND, first, 0);
            return true;
        }

        private boolean readGive() {
            int register = tokens.amount();
            tokens.move();
            if (!tokens.take('=') || !readSum(0)) {
                return false;
            }
            program.add(GIVE, register, 0);
            return true;
        }

        /** Open are the "(" and the "-" of factors round it, at most six. */
        private boolean readSum(int open) {
            if (!readProduct(open)) {
                return false;
            }
            for (int round = 0; round < INPUT_SIZE; round++) {
                int kind = tokens.kind();
                if (kind != '+' && kind != '-') {
                    return true;
                }
                tokens.move();
                if (!readProduct(open)) {
                    return false;
                }
                program.add(OPERATE, kind == '+' ? SUM : DIFFERENCE, 0);
            }
            return tokens.fail(SYNTAX);
        }

        private boolean readProduct(int open) {
            if (!readFactor(open)) {
                return false;
            }
            for (int round = 0; round < INPUT_SIZE; round++) {
                int kind = tokens.kind();
                if (kind != '*' && kind != '/' && kind != '%') {
                    return true;
                }
                tokens.move();
                if (!readFactor(open)) {
                    return false;
                }
                program.add(OPERATE, kind == '*' ? PRODUCT : kind == '/' ? QUOTIENT : REMAINDER, 0);
            }
            return tokens.fail(SYNTAX);
        }

        private boolean readFactor(int open) {
            int kind = tokens.kind();
            if (kind == NUMERAL) {
                program.add(TAKE_NUMBER, tokens.amount(), 0);
                return tokens.takeUpTo(half);
            }
            if (kind == REGISTER) {
                program.add(TAKE_REGISTER, tokens.amount(), 0);
                return tokens.take(REGISTER);
            }
            if (kind != '(' && kind != '-') {
                return tokens.fail(SYNTAX);
            }
            if (open >= MOST_OPEN) {
                return tokens.fail(TOO_MANY);
            }
            tokens.move();
            if (kind == '(') {
                return readSum(open + 1) && tokens.take(')');
            }
            program.add(TAKE_NUMBER, 0, 0);
            if (!readFactor(open + 1)) {
                return false;
            }
            program.add(OPERATE, DIFFERENCE, 0);
            return true;
        }
    }

    /** A script as steps, and the NUMBERs that its expressions still need. */
    private static final class Program {
        private final int[] kinds;
        private final int[] firsts;
        private final int[] seconds;
        private final long[] pending;
        private int size;
        private int height;

        Program() {
            kinds = new int[MOST_STEPS];
            firsts = new int[MOST_STEPS];
            seconds = new int[MOST_STEPS];
            pending = new long[MOST_PENDING];
        }

        void clear() {
            size = 0;
            height = 0;
        }

        void add(int kind, int first, int second) {
            if (size >= 0 && size < MOST_STEPS) {
                kinds[size] = kind;
                firsts[size] = first;
                seconds[size] = second;
                size++;
            }
        }

        /** The number of statements that were done. */
        int play(Mill mill) {
            int done = 0;
            for (int k = 0; k < size && k < MOST_STEPS; k++) {
                int reason = doStep(mill, kinds[k], firsts[k], seconds[k]);
                if (reason != 0) {
                    return done;
                }
                if (kinds[k] >= GIVE) {
                    mill.book(STATEMENTS_DONE);
                    done++;
                }
            }
            return done;
        }

        private int doStep(Mill mill, int kind, int first, int second) {
            switch (kind) {
                case TAKE_NUMBER:
                    push(first);
                    return 0;
                case TAKE_REGISTER:
                    push(mill.numberAt(first));
                    return 0;
                case OPERATE:
                    return doOperation(mill, first);
                case GIVE:
                    return mill.finish(first, pop());
                case SCALE:
                    return mill.actScale(first, second);
                case SWAP:
                    mill.exchange(first, second);
                    return 0;
                case MEND:
                    return mill.actMend(first);
                default:
                    mill.strict = first;
                    return 0;
            }
        }

        private int doOperation(Mill mill, int operation) {
            long second = pop();
            long first = pop();
            int reason = mill.reasonOf(operation, first, second);
            if (reason != 0) {
                return mill.refuse(reason);
            }
            push(numberIn(exactOf(operation, first, second), mill.moduli.whole));
            return 0;
        }

        private void push(long number) {
            if (height >= 0 && height < pending.length) {
                pending[height] = number;
                height++;
            }
        }

        private long pop() {
            if (height < 1 || height > pending.length) {
                return 0;
            }
            height--;
            return pending[height];
        }
    }
}
