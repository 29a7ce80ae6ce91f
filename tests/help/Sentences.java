import java.util.NoSuchElementException;

/**
 * What the tests of the document's sentences share. Each test is told with the section or the
 * promise that it is of and with the words that it would find broken.
 */
abstract class Sentences {
    static final Class<?> INDEX = IndexOutOfBoundsException.class;
    static final Class<?> ARGUMENT = IllegalArgumentException.class;
    static final Class<?> STATE = IllegalStateException.class;
    static final Class<?> ELEMENT = NoSuchElementException.class;
    static final int LEAST = Integer.MIN_VALUE;
    static final int GREATEST = Integer.MAX_VALUE;
    static final int REGISTERS = 8;
    static final int ACCOUNTS = 8;
    static final int INPUT_SIZE = 500;

    private static String where = "";
    private static String words = "";
    private static boolean isList = false;
    private static int sentences = 0;
    private static int asked = 0;
    private static int wrong = 0;

    interface Test {
        void run();
    }

    interface Call {
        long answer();
    }

    /** With the word "list" the sentences are told and not tested. */
    static void begin(String[] args) {
        isList = args.length > 0 && args[0].equals("list");
    }

    static void sentence(String place, String text, Test test) {
        where = place;
        words = text;
        sentences++;
        if (isList) {
            System.out.println(place + ": " + text);
            return;
        }
        int before = asked;
        try {
            test.run();
        } catch (RuntimeException e) {
            report("the test threw " + e);
        }
        if (asked == before) {
            report("the test asked nothing");
        }
    }

    static void end() {
        if (isList) {
            return;
        }
        System.out.println(sentences + " sentences, " + asked + " answers, " + wrong + " not as due");
        if (wrong != 0) {
            System.exit(1);
        }
    }

    private static void report(String text) {
        wrong++;
        System.out.println(where + ", \"" + words + "\": " + text);
    }

    static void due(String what, long got, long want) {
        asked++;
        if (got != want) {
            report(what + " answered " + got + ", due is " + want);
        }
    }

    static void due(String what, String got, String want) {
        asked++;
        if (!got.equals(want)) {
            report(what + " answered " + got + ", due is " + want);
        }
    }

    static void due(String what, boolean got, boolean want) {
        due(what, String.valueOf(got), String.valueOf(want));
    }

    static void dueThrow(String what, Class<?> want, Call call) {
        due(what, nameOfThrow(call), want.getSimpleName());
    }

    private static String nameOfThrow(Call call) {
        try {
            return String.valueOf(call.answer());
        } catch (RuntimeException e) {
            return e.getClass().getSimpleName();
        }
    }

    /** The state that can be asked for without a change, but for the accounts. */
    static String stateOf(RestMill x) {
        StringBuilder text = new StringBuilder();
        text.append("moduli ").append(moduliOf(x)).append("checks ").append(x.count(1));
        text.append(" strict ").append(x.count(2)).append(" numbers ").append(numbersOf(x));
        text.append("changes ").append(x.count(6));
        text.append(" error ").append(x.errorCode()).append(" at ").append(x.errorOffset());
        return text.toString();
    }

    static String moduliOf(RestMill x) {
        StringBuilder text = new StringBuilder();
        for (int k = 0; k < x.count(0); k++) {
            text.append(x.modulus(k)).append(' ');
        }
        return text.toString();
    }

    static String numbersOf(RestMill x) {
        StringBuilder text = new StringBuilder();
        for (int register = 0; register < REGISTERS; register++) {
            text.append(x.number(register)).append(' ');
        }
        return text.toString();
    }

    static String restsOf(RestMill x, int register) {
        StringBuilder text = new StringBuilder();
        for (int k = 0; k < x.count(0); k++) {
            text.append(x.rest(register, k)).append(' ');
        }
        return text.toString();
    }

    static String accountsOf(RestMill x) {
        StringBuilder text = new StringBuilder();
        for (int account = 0; account < ACCOUNTS; account++) {
            text.append(x.account(account)).append(' ');
        }
        return text.toString();
    }

    static String outputOf(RestMill x) {
        StringBuilder text = new StringBuilder();
        for (int k = 0; k < 100 && x.outputByte(k) >= 0; k++) {
            text.append((char) x.outputByte(k));
        }
        return text.toString();
    }

    static String printedRegister(RestMill x, int register) {
        int length = x.printRegister(register);
        String text = outputOf(x);
        due("the number of bytes of " + text, length, text.length());
        return text;
    }

    static String printedModuli(RestMill x) {
        int length = x.printModuli();
        String text = outputOf(x);
        due("the number of bytes of " + text, length, text.length());
        return text;
    }

    /** A buffer can be truncated to its own length, and to none above it. */
    static void dueLength(String what, RestMill x, int want) {
        due(what + ", truncateInput() to more than is due", x.truncateInput(want + 1), false);
        due(what + ", truncateInput() to what is due", x.truncateInput(want), true);
    }

    static void dueNoChange(String what, RestMill x, Test calls) {
        String state = stateOf(x);
        String accounts = accountsOf(x);
        calls.run();
        due("the state after " + what, stateOf(x), state);
        due("the accounts after " + what, accountsOf(x), accounts);
    }

    /** Refused: its reason is answered, and its account alone is one more. */
    static void dueRefused(String what, int reason, RestMill x, Call call) {
        String state = stateOf(x);
        int[] accounts = new int[ACCOUNTS];
        for (int account = 0; account < ACCOUNTS; account++) {
            accounts[account] = x.account(account);
        }
        due(what, call.answer(), reason);
        due("the state after " + what + " was refused", stateOf(x), state);
        for (int account = 0; account < ACCOUNTS; account++) {
            long want = accounts[account] + (account == reason ? 1 : 0);
            due("account(" + account + ") after " + what + " was refused", x.account(account), want);
        }
    }

    /** A text is put in 20 bytes at a time; what is too much of the last ones is cut off. */
    static void feed(RestMill x, String text) {
        x.truncateInput(0);
        for (int at = 0; at < text.length(); at += 20) {
            x.appendInput(four(text, at), four(text, at + 4), four(text, at + 8), four(text, at + 12), four(text, at + 16));
        }
        if (!x.truncateInput(text.length())) {
            throw new IllegalStateException("a text of a test is too long: " + text);
        }
    }

    private static int four(String text, int from) {
        int bytes = 0;
        for (int at = from; at < from + 4; at++) {
            bytes = bytes << 8 | (at < text.length() ? text.charAt(at) & 255 : ' ');
        }
        return bytes;
    }

    static int load(RestMill x, String text) {
        feed(x, text);
        return x.loadMill();
    }

    static int play(RestMill x, String text) {
        feed(x, text);
        return x.playScript();
    }

    static RestMill made(String setup) {
        RestMill x = new RestMill();
        if (load(x, setup) < 0) {
            throw new IllegalStateException("a setup of a test is wrong: " + setup);
        }
        return x;
    }

    static void dueLoaded(String text, int moduli) {
        RestMill x = new RestMill();
        due("load of '" + text + "'", load(x, text), moduli);
        due("errorCode of '" + text + "'", x.errorCode(), RestMill.NO_ERROR);
        due("errorOffset of '" + text + "'", x.errorOffset(), -1);
    }

    static void duePlayed(String text, int statements) {
        RestMill x = new RestMill();
        due("play of '" + text + "'", play(x, text), statements);
        due("errorCode of '" + text + "'", x.errorCode(), RestMill.NO_ERROR);
        due("errorOffset of '" + text + "'", x.errorOffset(), -1);
    }

    static void dueSetupError(String text, int code, int offset) {
        RestMill x = new RestMill();
        due("load of '" + text + "'", load(x, text), -1);
        due("errorCode of '" + text + "'", x.errorCode(), code);
        due("errorOffset of '" + text + "'", x.errorOffset(), offset);
    }

    static void dueScriptError(String text, int code, int offset) {
        dueScriptError(new RestMill(), text, code, offset);
    }

    static void dueScriptError(RestMill x, String text, int code, int offset) {
        due("play of '" + text + "'", play(x, text), -1);
        due("errorCode of '" + text + "'", x.errorCode(), code);
        due("errorOffset of '" + text + "'", x.errorOffset(), offset);
    }
}
