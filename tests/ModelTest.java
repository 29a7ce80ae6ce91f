import java.util.ArrayList;
import java.util.List;
import java.util.NoSuchElementException;
import java.util.Random;

/**
 * Long runs of calls, the same on RestMill and on a second program that is slow and holds rests only:
 * it looks for VALUE by trying, copies itself whole for undo, and walks over texts as trees.
 */
public final class ModelTest {

    static final class TextError extends RuntimeException {
        final int code;
        final int offset;

        TextError(int code, int offset) {
            this.code = code;
            this.offset = offset;
        }
    }

    static final class Refused extends RuntimeException {
        final int reason;

        Refused(int reason) {
            this.reason = reason;
        }
    }

    static final class State implements Cloneable {
        int[] m;
        int checks;
        int strict;
        int[][] rests;
        int[] accounts = new int[8];

        State copy() {
            State s = new State();
            s.m = m.clone();
            s.checks = checks;
            s.strict = strict;
            s.rests = new int[8][];
            for (int r = 0; r < 8; r++) {
                s.rests[r] = rests[r].clone();
            }
            s.accounts = accounts.clone();
            return s;
        }

        long whole() {
            long product = 1;
            for (int x : m) {
                product *= x;
            }
            return product;
        }

        long range() {
            long product = 1;
            for (int k = 0; k < m.length - checks; k++) {
                product *= m[k];
            }
            return product;
        }

        long half() {
            return (range() - 1) / 2;
        }

        /** By trying: a further modulus is met by adding the product of those before it. */
        long value(int[] row) {
            long v = 0;
            long step = 1;
            for (int k = 0; k < m.length; k++) {
                while (v % m[k] != row[k]) {
                    v += step;
                }
                step *= m[k];
            }
            return v;
        }

        long number(int[] row) {
            long v = value(row);
            return v <= (whole() - 1) / 2 ? v : v - whole();
        }

        boolean sound(int[] row) {
            long n = number(row);
            return -half() <= n && n <= half();
        }

        int[] row(long n) {
            int[] row = new int[m.length];
            for (int k = 0; k < m.length; k++) {
                row[k] = (int) (((n % m[k]) + m[k]) % m[k]);
            }
            return row;
        }

        int[] digits(int[] row) {
            long v = value(row);
            int[] digits = new int[m.length];
            for (int k = 0; k < m.length; k++) {
                digits[k] = (int) (v % m[k]);
                v /= m[k];
            }
            return digits;
        }

        long part(int[] row, int k) {
            int[] alone = new int[m.length];
            alone[k] = row[k];
            return value(alone);
        }

        static long quotient(long a, long b) {
            long q = a / b;
            return a % b != 0 && (a < 0) != (b < 0) ? q - 1 : q;
        }

        static long exact(int op, long a, long b) {
            switch (op) {
                case 0: return a + b;
                case 1: return a - b;
                case 2: return a * b;
                case 3: return quotient(a, b);
                default: return a - b * quotient(a, b);
            }
        }

        /** What an operation gives, modulus by modulus where it can; refused with its reason. */
        int[] operation(int op, int[] a, int[] b) {
            int[] row = new int[m.length];
            if (op >= 3) {
                if (number(b) == 0) {
                    throw new Refused(1);
                }
                row = row(exact(op, number(a), number(b)));
            } else {
                for (int k = 0; k < m.length; k++) {
                    int x = op == 0 ? a[k] + b[k] : op == 1 ? a[k] - b[k] + m[k] : a[k] * b[k];
                    row[k] = x % m[k];
                }
            }
            if (strict == 1 && !sound(row)) {
                throw new Refused(2);
            }
            return row;
        }

        void lay(int r, int[] row) {
            rests[r] = row.clone();
            accounts[0]++;
            if (!sound(row)) {
                accounts[6]++;
            }
        }

        void scale(int r, int k) {
            int[] row = row(quotient(number(rests[r]), m[k]));
            if (strict == 1 && !sound(row)) {
                throw new Refused(2);
            }
            lay(r, row);
        }

        List<Integer> soundRests(int r, int k) {
            List<Integer> found = new ArrayList<>();
            for (int rest = 0; rest < m[k]; rest++) {
                int[] row = rests[r].clone();
                row[k] = rest;
                if (rest != rests[r][k] && sound(row)) {
                    found.add(rest);
                }
            }
            return found;
        }

        int faults(int r) {
            int set = 0;
            for (int k = 0; k < m.length && !sound(rests[r]); k++) {
                set |= soundRests(r, k).isEmpty() ? 0 : 1 << k;
            }
            return set;
        }

        void mend(int r) {
            int set = faults(r);
            if (set == 0) {
                throw new Refused(3);
            }
            int k = Integer.numberOfTrailingZeros(set);
            int[] row = rests[r].clone();
            row[k] = soundRests(r, k).get(0);
            lay(r, row);
        }

        void swap(int a, int b) {
            int[] row = rests[a];
            rests[a] = rests[b];
            rests[b] = row;
        }

        static boolean coprime(int a, int b) {
            for (int d = 2; d <= a; d++) {
                if (a % d == 0 && b % d == 0) {
                    return false;
                }
            }
            return true;
        }

        boolean takes(int modulus) {
            boolean can = m.length < 6 && whole() * modulus <= 1000000000L;
            for (int x : m) {
                can &= coprime(x, modulus);
            }
            return can;
        }

        void grow(int modulus) {
            if (!takes(modulus)) {
                throw new Refused(4);
            }
            long[] numbers = numbers();
            List<Integer> all = list();
            all.add(m.length - checks, modulus);
            tell(all, numbers);
            accounts[0]++;
        }

        boolean spares(int k) {
            if (m.length == 2 || m.length - checks == 1 && k < m.length - checks) {
                return false;
            }
            State s = without(k);
            long[] before = numbers();
            long[] after = s.numbers();
            for (int r = 0; r < 8; r++) {
                if (before[r] != after[r]) {
                    return false;
                }
            }
            return true;
        }

        State without(int k) {
            State s = copy();
            List<Integer> all = list();
            all.remove(k);
            s.tell(all, numbers());
            s.checks = k >= m.length - checks ? checks - 1 : checks;
            return s;
        }

        void drop(int k) {
            if (!spares(k)) {
                throw new Refused(4);
            }
            State s = without(k);
            m = s.m;
            rests = s.rests;
            checks = s.checks;
            accounts[0]++;
        }

        List<Integer> list() {
            List<Integer> all = new ArrayList<>();
            for (int x : m) {
                all.add(x);
            }
            return all;
        }

        long[] numbers() {
            long[] numbers = new long[8];
            for (int r = 0; r < 8; r++) {
                numbers[r] = number(rests[r]);
            }
            return numbers;
        }

        void tell(List<Integer> all, long[] numbers) {
            m = new int[all.size()];
            for (int k = 0; k < m.length; k++) {
                m[k] = all.get(k);
            }
            rests = new int[8][];
            for (int r = 0; r < 8; r++) {
                rests[r] = row(numbers[r]);
            }
        }
    }

    /** A token by its text; "" at the end, and " " for what can stand nowhere. */
    static final class Reader {
        final String text;
        int from;
        int to;
        String token;

        Reader(String text) {
            this.text = text;
            next();
        }

        void next() {
            from = to;
            while (from < text.length() && (text.charAt(from) == ' ' || text.charAt(from) == '\n')) {
                from++;
            }
            to = from;
            if (from == text.length()) {
                token = "";
                return;
            }
            String rest = text.substring(from);
            String head = rest.replaceAll("(?s)^([a-z]+|[0-9]+|.).*$", "$1");
            to = from + head.length();
            token = head.matches("[a-z]+|[0-9]{1,9}|[;=+\\-*/%()]") ? head : " ";
        }

        boolean is(String what) {
            return token.equals(what);
        }

        TextError error(int code) {
            return new TextError(code, from);
        }

        String take(String pattern) {
            if (!token.matches(pattern)) {
                throw error(1);
            }
            String taken = token;
            next();
            return taken;
        }

        int register() {
            return take("[a-h]").charAt(0) - 'a';
        }

        int numeral(long least, long greatest) {
            if (!token.matches("[0-9]+")) {
                throw error(1);
            }
            int n = Integer.parseInt(token);
            if (n < least || n > greatest) {
                throw error(2);
            }
            next();
            return n;
        }
    }

    static State setup(String text) {
        Reader in = new Reader(text);
        State s = new State();
        s.m = new int[0];
        in.take("moduli");
        while (s.m.length < 2 || !in.is(";")) {
            Reader ahead = new Reader(text.substring(0, in.to));
            ahead.from = in.from;
            ahead.to = in.to;
            ahead.token = in.token;
            int x = ahead.numeral(2, 97);
            if (s.whole() * x > 1000000000L) {
                throw in.error(2);
            }
            for (int y : s.m) {
                if (!State.coprime(y, x)) {
                    throw in.error(4);
                }
            }
            if (s.m.length == 6) {
                throw in.error(5);
            }
            List<Integer> all = s.list();
            all.add(x);
            s.tell(all, new long[8]);
            in.next();
        }
        in.take(";");
        if (in.is("checks")) {
            in.next();
            s.checks = in.numeral(0, Math.min(2, s.m.length - 1));
            in.take(";");
        }
        if (in.is("strict")) {
            in.next();
            s.strict = in.numeral(0, 1);
            in.take(";");
        }
        boolean[] known = new boolean[8];
        while (in.is("set")) {
            in.next();
            if (in.token.matches("[a-h]") && known[in.token.charAt(0) - 'a']) {
                throw in.error(3);
            }
            int r = in.register();
            known[r] = true;
            boolean below = in.is("-");
            if (below) {
                in.next();
            }
            int n = in.numeral(0, s.half());
            s.rests[r] = s.row(below ? -n : n);
            in.take(";");
        }
        if (!in.is("")) {
            throw in.error(1);
        }
        return s;
    }

    /** A node of an expression: N and R are leaves, an operation has two parts. */
    static final class Node {
        char kind;
        int leaf;
        Node left;
        Node right;

        Node(char kind, int leaf, Node left, Node right) {
            this.kind = kind;
            this.leaf = leaf;
            this.left = left;
            this.right = right;
        }

        int[] work(State s) {
            if (kind == 'N') {
                return s.row(leaf);
            }
            if (kind == 'R') {
                return s.rests[leaf].clone();
            }
            int[] a = left.work(s);
            int[] b = right.work(s);
            return s.operation("+-*/%".indexOf(kind), a, b);
        }
    }

    static final class Statement {
        String kind;
        int first;
        int second;
        Node sum;

        /** Whether it is an act is told by the accounts alone. */
        void work(State s) {
            switch (kind) {
                case "scale": s.scale(first, second); break;
                case "swap": s.swap(first, second); break;
                case "mend": s.mend(first); break;
                case "strict": s.strict = first; break;
                default: s.lay(first, sum.work(s)); break;
            }
        }
    }

    static List<Statement> script(String text, State s) {
        Reader in = new Reader(text);
        List<Statement> all = new ArrayList<>();
        while (!in.is("")) {
            if (!in.token.matches("[a-h]|scale|swap|mend|strict")) {
                throw in.error(1);
            }
            if (all.size() == 20) {
                throw in.error(5);
            }
            Statement one = new Statement();
            one.kind = in.token;
            switch (one.kind) {
                case "scale": in.next(); one.first = in.register(); one.second = in.numeral(0, s.m.length - 1); break;
                case "swap": in.next(); one.first = in.register(); one.second = in.register(); break;
                case "mend": in.next(); one.first = in.register(); break;
                case "strict": in.next(); one.first = in.numeral(0, 1); break;
                default: one.first = in.register(); in.take("="); one.sum = sum(in, s, 0); break;
            }
            in.take(";");
            all.add(one);
        }
        return all;
    }

    static Node sum(Reader in, State s, int open) {
        Node node = product(in, s, open);
        while (in.is("+") || in.is("-")) {
            char sign = in.take("[+-]").charAt(0);
            node = new Node(sign, 0, node, product(in, s, open));
        }
        return node;
    }

    static Node product(Reader in, State s, int open) {
        Node node = factor(in, s, open);
        while (in.token.matches("[*/%]")) {
            char sign = in.take("[*/%]").charAt(0);
            node = new Node(sign, 0, node, factor(in, s, open));
        }
        return node;
    }

    static Node factor(Reader in, State s, int open) {
        if (in.token.matches("[0-9]+")) {
            return new Node('N', in.numeral(0, s.half()), null, null);
        }
        if (in.token.matches("[a-h]")) {
            return new Node('R', in.register(), null, null);
        }
        if (!in.is("(") && !in.is("-")) {
            throw in.error(1);
        }
        if (open == 6) {
            throw in.error(5);
        }
        if (in.is("-")) {
            in.next();
            return new Node('-', 0, new Node('N', 0, null, null), factor(in, s, open + 1));
        }
        in.next();
        Node node = sum(in, s, open + 1);
        in.take("\\)");
        return node;
    }

    static final int[] ODD = {-1, -2, 8, 9, 97, 98, 10000, Integer.MIN_VALUE, Integer.MAX_VALUE, 1000000001, -1000000001};

    State s = setup("moduli 7 11 13; checks 1;");
    List<State> past = new ArrayList<>();
    State saved;
    String buffer = "";
    String output = "";
    int code;
    int offset = -1;
    final RestMill x = new RestMill();
    final Random random;
    final StringBuilder told = new StringBuilder();
    static int wrong;
    static long asked;

    ModelTest(long seed) {
        random = new Random(seed);
    }

    interface Call {
        Object answer();
    }

    static String answerOf(Call call) {
        try {
            return String.valueOf(call.answer());
        } catch (TextError e) {
            return "text error";
        } catch (RuntimeException e) {
            return "throws." + e.getClass().getName();
        }
    }

    void both(String what, Call real, Call model) {
        String want = answerOf(model);
        String got = answerOf(real);
        asked++;
        told.append("  ").append(what).append(" -> ").append(got).append('\n');
        if (!want.equals(got)) {
            wrong++;
            told.append("  DUE IS ").append(want).append('\n');
            throw new IllegalStateException("wrong");
        }
    }

    static void need(boolean right) {
        if (!right) {
            throw new IndexOutOfBoundsException();
        }
    }

    static void needArgument(boolean right) {
        if (!right) {
            throw new IllegalArgumentException();
        }
    }

    void needR(int r) {
        need(r >= 0 && r < 8);
    }

    void needM(int k) {
        need(k >= 0 && k < s.m.length);
    }

    interface Act {
        void work();
    }

    /** A change of the model; one that is refused leaves the accounts alone changed. */
    int change(Act act) {
        State before = s.copy();
        try {
            act.work();
        } catch (Refused e) {
            s = before;
            s.accounts[e.reason]++;
            return e.reason;
        }
        past.add(before);
        if (past.size() > 8) {
            past.remove(0);
        }
        return 0;
    }

    int anyRegister() {
        return random.nextInt(60) == 0 ? ODD[random.nextInt(ODD.length)] : random.nextInt(random.nextInt(3) == 0 ? 8 : 4);
    }

    int anyModulus() {
        return random.nextInt(60) == 0 ? ODD[random.nextInt(ODD.length)] : random.nextInt(s.m.length + (random.nextInt(20) == 0 ? 1 : 0));
    }

    int anyOperation() {
        return random.nextInt(60) == 0 ? ODD[random.nextInt(ODD.length)] : random.nextInt(5);
    }

    int anyRest(int k) {
        int m = k >= 0 && k < s.m.length ? s.m[k] : 5;
        return random.nextInt(40) == 0 ? new int[] {-1, m, m + 1, Integer.MIN_VALUE, Integer.MAX_VALUE}[random.nextInt(5)] : random.nextInt(m);
    }

    long anyNumber() {
        long half = s.half();
        switch (random.nextInt(6)) {
            case 0: return half + random.nextInt(3) - 1;
            case 1: return -half + random.nextInt(3) - 1;
            case 2: return random.nextInt(21) - 10;
            default: return (long) (random.nextDouble() * (2 * half + 1)) - half;
        }
    }

    void feed(String text) {
        truncate(0);
        for (int at = 0; at < text.length(); at += 20) {
            int[] w = new int[5];
            StringBuilder piece = new StringBuilder();
            for (int k = 0; k < 20; k++) {
                int sign = at + k < text.length() ? text.charAt(at + k) : random.nextInt(256);
                piece.append((char) sign);
                w[k / 4] = w[k / 4] << 8 | sign;
            }
            append(w, piece.toString());
        }
        if (random.nextInt(50) != 0) {
            truncate(text.length());
        }
    }

    void append(int[] w, String piece) {
        both("appendInput of " + piece.replace('\n', '~'), () -> x.appendInput(w[0], w[1], w[2], w[3], w[4]), () -> {
            if (buffer.length() + 20 > 500) {
                return -1;
            }
            buffer += piece;
            return buffer.length();
        });
    }

    void truncate(int length) {
        both("truncateInput(" + length + ")", () -> x.truncateInput(length), () -> {
            if (length < 0 || length > buffer.length()) {
                return false;
            }
            buffer = buffer.substring(0, length);
            return true;
        });
    }

    String gapText() {
        int which = random.nextInt(12);
        return which == 0 ? "\n" : which == 1 ? "  " : which < 4 ? " " : "";
    }

    String join(List<String> tokens) {
        StringBuilder text = new StringBuilder();
        for (int k = 0; k < tokens.size(); k++) {
            String token = tokens.get(k);
            boolean glued = k > 0 && glues(tokens.get(k - 1), token);
            text.append(glued && random.nextInt(200) != 0 ? " " : "").append(gapText()).append(token);
        }
        return text.append(gapText()).toString();
    }

    static boolean glues(String a, String b) {
        char last = a.charAt(a.length() - 1);
        char first = b.charAt(0);
        return Character.isLowerCase(last) && Character.isLowerCase(first) || Character.isDigit(last) && Character.isDigit(first);
    }

    List<String> tokens = new ArrayList<>();

    void put(String... some) {
        for (String one : some) {
            tokens.add(one);
        }
    }

    String numeral(long n) {
        return (random.nextInt(30) == 0 ? "00" : "") + n;
    }

    String letter() {
        return String.valueOf((char) ('a' + random.nextInt(random.nextInt(40) == 0 ? 10 : 8)));
    }

    static final int[][] SETS = {{7, 11, 13}, {2, 3}, {4, 3, 5}, {97, 89, 83, 79, 3}, {2, 3, 5, 7, 11, 13}, {7, 9, 5, 4}, {5, 7, 97, 89},
        {2, 97, 89}, {16, 27, 25, 7, 11}, {97, 96, 95, 91, 11}, {8, 9}, {2, 5, 9, 7}, {3, 4, 5, 7}, {2, 3, 11, 13, 17}};

    String setupText() {
        tokens = new ArrayList<>();
        put("moduli");
        int[] row = SETS[random.nextInt(SETS.length)].clone();
        for (int k = row.length - 1; k > 0; k--) {
            int other = random.nextInt(k + 1);
            int kept = row[k];
            row[k] = row[other];
            row[other] = kept;
        }
        for (int modulus : row) {
            put(numeral(random.nextInt(80) == 0 ? random.nextInt(100) : modulus));
        }
        while (random.nextInt(25) == 0) {
            put(numeral(random.nextInt(100)));
        }
        put(";");
        int checks = random.nextInt(3) + (random.nextInt(30) == 0 ? 1 : 0);
        if (checks > 0 && (checks < row.length || random.nextInt(20) == 0)) {
            put("checks", numeral(checks), ";");
        }
        if (random.nextInt(3) == 0) {
            put("strict", numeral(random.nextInt(random.nextInt(20) == 0 ? 4 : 2)), ";");
        }
        long range = 1;
        for (int k = 0; k < row.length - Math.min(checks, row.length - 1); k++) {
            range *= row[k];
        }
        int next = 0;
        for (int count = random.nextInt(9); count > 0 && next < 8; count--) {
            put("set", random.nextInt(60) == 0 ? letter() : String.valueOf((char) ('a' + next)));
            next++;
            if (random.nextBoolean()) {
                put("-");
            }
            long half = (range - 1) / 2;
            put(numeral(random.nextInt(60) == 0 ? half + 1 : random.nextInt(3) == 0 ? half : (long) (random.nextDouble() * half)), ";");
        }
        return spoil(join(tokens));
    }

    String spoil(String text) {
        StringBuilder spoilt = new StringBuilder(text);
        while (random.nextInt(4) == 0 && spoilt.length() > 0) {
            int at = random.nextInt(spoilt.length());
            switch (random.nextInt(4)) {
                case 0: spoilt.deleteCharAt(at); break;
                case 1: spoilt.insert(at, "();=+-*/%0123456789abchi smx\n,".charAt(random.nextInt(30))); break;
                case 2: spoilt.setCharAt(at, (char) random.nextInt(256)); break;
                default: spoilt.setLength(at); break;
            }
        }
        if (spoilt.length() > 500) {
            spoilt.setLength(500);
        }
        return spoilt.toString();
    }

    void putFactor(int open, int size) {
        if (open > 0 && random.nextInt(3) == 0 && (open > 1 || random.nextInt(20) == 0)) {
            if (random.nextBoolean()) {
                put("-");
                putFactor(open - 1, size);
            } else {
                put("(");
                putSum(open - 1, size / 2);
                put(")");
            }
        } else if (random.nextBoolean()) {
            put(letter());
        } else {
            put(numeral(random.nextInt(300) == 0 ? s.half() + 1 : Math.min(s.half(), Math.abs(anyNumber()))));
        }
    }

    void putSum(int open, int size) {
        putFactor(open, size);
        for (int count = random.nextInt(size + 1); count > 0; count--) {
            put(String.valueOf("++--***/%".charAt(random.nextInt(9))));
            putFactor(open, size);
        }
    }

    String scriptText() {
        tokens = new ArrayList<>();
        int count = random.nextInt(20) == 0 ? 18 + random.nextInt(5) : random.nextInt(6);
        for (int k = 0; k < count; k++) {
            switch (random.nextInt(9)) {
                case 0: put("scale", letter(), numeral(random.nextInt(s.m.length + (random.nextInt(30) == 0 ? 1 : 0)))); break;
                case 1: put("swap", letter(), letter()); break;
                case 2: put("mend", letter()); break;
                case 3: put("strict", numeral(random.nextInt(random.nextInt(30) == 0 ? 3 : 2))); break;
                default: put(letter(), "="); putSum(random.nextInt(9), random.nextInt(count > 10 ? 2 : 7)); break;
            }
            put(";");
        }
        return spoil(join(tokens));
    }

    int parse(Call parsing) {
        code = 0;
        offset = -1;
        try {
            return (Integer) parsing.answer();
        } catch (TextError e) {
            code = e.code;
            offset = e.offset;
            return -1;
        } finally {
            buffer = "";
        }
    }

    void load() {
        both("loadMill()", () -> x.loadMill(), () -> parse(() -> {
            s = setup(buffer);
            past.clear();
            saved = null;
            return s.m.length;
        }));
        errors();
    }

    void play() {
        both("playScript()", () -> x.playScript(), () -> parse(() -> {
            List<Statement> all = script(buffer, s);
            int[] done = new int[1];
            change(() -> {
                for (Statement one : all) {
                    State before = s.copy();
                    try {
                        one.work(s);
                    } catch (Refused e) {
                        s = before;
                        s.accounts[e.reason]++;
                        break;
                    }
                    s.accounts[7]++;
                    done[0]++;
                }
            });
            return done[0];
        }));
        errors();
    }

    void errors() {
        both("errorCode()", () -> x.errorCode(), () -> code);
        both("errorOffset()", () -> x.errorOffset(), () -> offset);
    }

    void step() {
        int r = anyRegister();
        int o = anyRegister();
        int t = anyRegister();
        int k = anyModulus();
        int op = anyOperation();
        int rest = anyRest(k);
        switch (random.nextInt(24)) {
            case 0:
                feed(setupText());
                load();
                break;
            case 1: case 2: case 3:
                feed(scriptText());
                play();
                break;
            case 4: case 5: case 6:
                long wanted = anyNumber();
                int n = random.nextInt(60) == 0 ? ODD[random.nextInt(ODD.length)] : random.nextInt(60) == 0 ? 1000000000 : (int) wanted;
                both("set(" + r + ", " + n + ")", () -> x.set(r, n), () -> {
                    needR(r);
                    needArgument(n >= -1000000000 && n <= 1000000000);
                    return change(() -> {
                        if (n < -s.half() || n > s.half()) {
                            throw new Refused(5);
                        }
                        s.lay(r, s.row(n));
                    });
                });
                break;
            case 7: case 8:
                both("hurt(" + r + ", " + k + ", " + rest + ")", () -> x.hurt(r, k, rest), () -> {
                    needR(r);
                    needM(k);
                    needArgument(rest >= 0 && rest < s.m[k]);
                    int before = s.rests[r][k];
                    change(() -> s.rests[r][k] = rest);
                    return before;
                });
                break;
            case 9: case 10: case 11: case 12:
                both("operate(" + op + ", " + t + ", " + r + ", " + o + ")", () -> x.operate(op, t, r, o), () -> {
                    needArgument(op >= 0 && op < 5);
                    needR(t);
                    needR(r);
                    needR(o);
                    return change(() -> s.lay(t, s.operation(op, s.rests[r], s.rests[o])));
                });
                break;
            case 13:
                both("scale(" + r + ", " + k + ")", () -> x.scale(r, k), () -> {
                    needR(r);
                    needM(k);
                    return change(() -> s.scale(r, k));
                });
                break;
            case 14: case 15:
                both("mend(" + r + ")", () -> x.mend(r), () -> {
                    needR(r);
                    return change(() -> s.mend(r));
                });
                break;
            case 16:
                both("swap(" + r + ", " + o + ")", () -> x.swap(r, o), () -> {
                    needR(r);
                    needR(o);
                    change(() -> s.swap(r, o));
                    return Long.compare(s.number(s.rests[r]), s.number(s.rests[o]));
                });
                break;
            case 17:
                int modulus = random.nextInt(30) == 0 ? ODD[random.nextInt(ODD.length)] : random.nextInt(4) == 0 ? random.nextInt(100) : 2 + random.nextInt(16);
                both("grow(" + modulus + ")", () -> x.grow(modulus), () -> {
                    needArgument(modulus >= 2 && modulus <= 97);
                    return change(() -> s.grow(modulus));
                });
                break;
            case 18:
                both("drop(" + k + ")", () -> x.drop(k), () -> {
                    needM(k);
                    return change(() -> s.drop(k));
                });
                break;
            case 19:
                int strict = random.nextInt(30) == 0 ? ODD[random.nextInt(ODD.length)] : random.nextInt(2);
                both("setStrict(" + strict + ")", () -> x.setStrict(strict), () -> {
                    needArgument(strict == 0 || strict == 1);
                    int before = s.strict;
                    change(() -> s.strict = strict);
                    return before;
                });
                break;
            case 20: case 21:
                for (int count = random.nextInt(random.nextInt(5) == 0 ? 12 : 3); count > 0; count--) {
                    both("undo()", () -> x.undo(), () -> {
                        if (past.isEmpty()) {
                            throw new NoSuchElementException();
                        }
                        s = past.remove(past.size() - 1);
                        return past.size();
                    });
                }
                break;
            case 22:
                if (random.nextBoolean()) {
                    both("saveState()", () -> x.saveState(), () -> {
                        saved = s.copy();
                        return s.m.length;
                    });
                } else {
                    both("restoreState()", () -> x.restoreState(), () -> {
                        if (saved == null) {
                            throw new NoSuchElementException();
                        }
                        s = saved.copy();
                        past.clear();
                        return s.m.length;
                    });
                }
                break;
            default:
                ask(r, o, k, op, rest);
                break;
        }
    }

    void ask(int r, int o, int k, int op, int rest) {
        both("extend", () -> x.extend(r, rest, k == 0), () -> {
            needR(r);
            needArgument(rest >= 2 && rest <= 9999);
            long n = k == 0 ? s.number(s.rests[r]) : s.value(s.rests[r]);
            return (n % rest + rest) % rest;
        });
        both("exact(" + op + ", " + r + ", " + o + ")", () -> x.exact(op, r, o), () -> {
            needArgument(op >= 0 && op < 5);
            needR(r);
            needR(o);
            if (op >= 3 && s.number(s.rests[o]) == 0) {
                throw new IllegalStateException();
            }
            return State.exact(op, s.number(s.rests[r]), s.number(s.rests[o]));
        });
        both("why(" + op + ", " + r + ", " + o + ")", () -> x.why(op, r, o), () -> {
            needArgument(op >= 0 && op < 5);
            needR(r);
            needR(o);
            try {
                int[] row = s.operation(op, s.rests[r], s.rests[o]);
                return s.number(row) == State.exact(op, s.number(s.rests[r]), s.number(s.rests[o])) ? 0 : 6;
            } catch (Refused e) {
                return e.reason;
            }
        });
        both("numberWith(" + r + ", " + k + ", " + rest + ")", () -> x.numberWith(r, k, rest), () -> {
            needR(r);
            needM(k);
            needArgument(rest >= 0 && rest < s.m[k]);
            int[] row = s.rests[r].clone();
            row[k] = rest;
            return s.number(row);
        });
        both("printRegister(" + r + ")", () -> x.printRegister(r), () -> {
            needR(r);
            StringBuilder row = new StringBuilder();
            for (int one : s.rests[r]) {
                row.append(row.length() == 0 ? "" : ",").append(one);
            }
            output = (char) ('a' + r) + "=(" + row + ")=" + s.number(s.rests[r]) + (s.sound(s.rests[r]) ? "" : "!");
            return output.length();
        });
        outputs();
        if (random.nextBoolean()) {
            both("printModuli()", () -> x.printModuli(), () -> {
                StringBuilder row = new StringBuilder();
                for (int at = 0; at < s.m.length; at++) {
                    row.append(at == 0 ? "" : " ").append(s.m[at]).append(at >= s.m.length - s.checks ? "?" : "");
                }
                output = row.toString();
                return output.length();
            });
            outputs();
        }
    }

    void outputs() {
        for (int at = -1; at <= output.length(); at++) {
            int index = at;
            both("outputByte(" + at + ")", () -> x.outputByte(index),
                    () -> index < 0 || index >= output.length() ? -1 : (int) output.charAt(index));
        }
    }

    void askAll() {
        int[] counts = new int[7];
        int greatest = 0;
        long sum = 0;
        int zeros = 0;
        long[] numbers = s.numbers();
        for (int r = 0; r < 8; r++) {
            counts[3] += s.sound(s.rests[r]) ? 1 : 0;
            counts[4] += numbers[r] == 0 ? 1 : 0;
            counts[5] += numbers[r] < 0 ? 1 : 0;
            greatest = Math.abs(numbers[r]) > Math.abs(numbers[greatest]) ? r : greatest;
            sum += numbers[r];
            for (int rest : s.rests[r]) {
                zeros += rest == 0 ? 1 : 0;
            }
            askRegister(r);
        }
        counts[0] = s.m.length;
        counts[1] = s.checks;
        counts[2] = s.strict;
        counts[6] = past.size();
        for (int k = -1; k < 9; k++) {
            int what = k;
            both("count(" + k + ")", () -> x.count(what), () -> { needArgument(what >= 0 && what < 7); return counts[what]; });
            both("account(" + k + ")", () -> x.account(what), () -> { needArgument(what >= 0 && what < 8); return s.accounts[what]; });
            both("bound(" + k + ")", () -> x.bound(what), () -> {
                needArgument(what >= 0 && what < 3);
                return what == 0 ? s.range() : what == 1 ? s.whole() : s.half();
            });
        }
        askModuli();
        both("gap()", () -> x.gap(), () -> 0);
        int best = greatest;
        double mean = (double) sum / (double) 8;
        float share = (float) zeros / (float) (8 * s.m.length);
        both("greatest()", () -> x.greatest(), () -> best);
        both("mean()", () -> x.mean(), () -> mean);
        both("zeroShare()", () -> x.zeroShare(), () -> share);
    }

    void askRegister(int r) {
        int[] row = s.rests[r];
        long value = s.value(row);
        long sum = 0;
        int[] digits = s.digits(row);
        for (int k = 0; k < s.m.length; k++) {
            int at = k;
            sum += s.part(row, k);
            both("rest(" + r + ", " + k + ")", () -> x.rest(r, at), () -> row[at]);
            both("digit(" + r + ", " + k + ")", () -> x.digit(r, at), () -> digits[at]);
            both("part(" + r + ", " + k + ")", () -> x.part(r, at), () -> s.part(row, at));
        }
        long rank = (sum - value) / s.whole();
        both("rank(" + r + ")", () -> x.rank(r), () -> rank);
        both("value(" + r + ")", () -> x.value(r), () -> value);
        both("number(" + r + ")", () -> x.number(r), () -> s.number(row));
        both("isSound(" + r + ")", () -> x.isSound(r), () -> s.sound(row));
        both("faults(" + r + ")", () -> x.faults(r), () -> s.faults(r));
        int o = random.nextInt(8);
        both("compare(" + r + ", " + o + ")", () -> x.compare(r, o), () -> Long.compare(s.number(row), s.number(s.rests[o])));
        both("distance(" + r + ", " + o + ")", () -> x.distance(r, o), () -> {
            int found = 0;
            for (int k = 0; k < s.m.length; k++) {
                found += row[k] != s.rests[o][k] ? 1 : 0;
            }
            return found;
        });
    }

    void askModuli() {
        for (int k = -1; k <= s.m.length; k++) {
            int at = k;
            both("modulus(" + k + ")", () -> x.modulus(at), () -> { needM(at); return s.m[at]; });
            both("weight(" + k + ")", () -> x.weight(at), () -> {
                needM(at);
                int[] one = new int[s.m.length];
                one[at] = 1;
                return s.value(one);
            });
            for (int by = -1; by <= s.m.length; by++) {
                int other = by;
                both("inverse(" + k + ", " + by + ")", () -> x.inverse(at, other), () -> {
                    needM(at);
                    needM(other);
                    int inverse = at == other ? 0 : 1;
                    while (at != other && s.m[at] * inverse % s.m[other] != 1) {
                        inverse++;
                    }
                    return inverse;
                });
            }
        }
        both("nextModulus()", () -> x.nextModulus(), () -> {
            for (int n = 2; n <= 97; n++) {
                if (s.takes(n)) {
                    return n;
                }
            }
            return -1;
        });
        both("spare()", () -> x.spare(), () -> {
            int set = 0;
            for (int k = 0; k < s.m.length; k++) {
                set |= s.spares(k) ? 1 << k : 0;
            }
            return set;
        });
    }

    void run(int steps) {
        for (int k = 0; k < steps; k++) {
            step();
            if (random.nextInt(3) == 0) {
                askAll();
            }
        }
        askAll();
    }

    public static void main(String[] args) {
        int runs = args.length > 0 ? Integer.parseInt(args[0]) : 250;
        long first = args.length > 1 ? Long.parseLong(args[1]) : 1;
        for (long seed = first; seed < first + runs && wrong < 3; seed++) {
            ModelTest test = new ModelTest(seed);
            try {
                test.run(80);
            } catch (IllegalStateException e) {
                String told = test.told.toString();
                System.out.println("run " + seed + ":\n" + told.substring(Math.max(0, told.length() - 6000)));
            }
        }
        System.out.println(asked + " answers, " + wrong + " runs not as due");
        if (wrong != 0) {
            System.exit(1);
        }
    }
}
