import java.util.NoSuchElementException;

/** Each promise of the document by its number: ordinary inputs, edges and wrong inputs. */
public final class PromisesTest {
    private static int wrong = 0;
    private static int asked = 0;

    interface Call {
        long answer();
    }

    private static void due(int promise, String what, long got, long want) {
        asked++;
        if (got != want) {
            wrong++;
            System.out.println("promise " + promise + ": " + what + " answered " + got + ", due is " + want);
        }
    }

    private static void dueText(int promise, String what, String got, String want) {
        asked++;
        if (!got.equals(want)) {
            wrong++;
            System.out.println("promise " + promise + ": " + what + " answered " + got + ", due is " + want);
        }
    }

    private static void dueThrow(int promise, String what, Class<?> want, Call call) {
        asked++;
        String got;
        try {
            got = "" + call.answer();
        } catch (RuntimeException e) {
            if (e.getClass() == want) {
                return;
            }
            got = e.getClass().getSimpleName();
        }
        wrong++;
        System.out.println("promise " + promise + ": " + what + " answered " + got + ", due is " + want.getSimpleName());
    }

    private static final Class<?> INDEX = IndexOutOfBoundsException.class;
    private static final Class<?> ARGUMENT = IllegalArgumentException.class;
    private static final Class<?> STATE = IllegalStateException.class;
    private static final Class<?> ELEMENT = NoSuchElementException.class;
    private static final int[] NO_REGISTERS = {-1, 8, Integer.MIN_VALUE, Integer.MAX_VALUE};

    static void feed(RestMill x, String text) {
        x.truncateInput(0);
        int length = 0;
        for (int at = 0; at < text.length(); at += 20) {
            int[] words = new int[5];
            for (int k = 0; k < 20; k++) {
                int sign = at + k < text.length() ? text.charAt(at + k) : ' ';
                words[k / 4] = words[k / 4] << 8 | sign & 255;
            }
            length = x.appendInput(words[0], words[1], words[2], words[3], words[4]);
        }
        if (length < text.length() || !x.truncateInput(text.length())) {
            throw new IllegalStateException("the text is too long for the test");
        }
    }

    private static int load(RestMill x, String text) {
        feed(x, text);
        return x.loadMill();
    }

    private static int play(RestMill x, String text) {
        feed(x, text);
        return x.playScript();
    }

    private static RestMill made(String setup) {
        RestMill x = new RestMill();
        if (load(x, setup) < 0) {
            throw new IllegalStateException("the setup of a test is wrong: " + setup);
        }
        return x;
    }

    private static String output(RestMill x) {
        StringBuilder text = new StringBuilder();
        for (int k = 0; x.outputByte(k) >= 0; k++) {
            text.append((char) x.outputByte(k));
        }
        return text.toString();
    }

    private static String moduli(RestMill x) {
        x.printModuli();
        return output(x);
    }

    private static String register(RestMill x, int register) {
        x.printRegister(register);
        return output(x);
    }

    private static String numbers(RestMill x) {
        StringBuilder text = new StringBuilder();
        for (int register = 0; register < 8; register++) {
            text.append(register == 0 ? "" : " ").append(x.number(register));
        }
        return text.toString();
    }

    private static String accounts(RestMill x) {
        StringBuilder text = new StringBuilder();
        for (int account = 0; account < 8; account++) {
            text.append(account == 0 ? "" : " ").append(x.account(account));
        }
        return text.toString();
    }

    private static String state(RestMill x) {
        return x.count(2) + "|" + x.count(1) + "|" + moduli(x) + "|" + numbers(x) + "|" + accounts(x) + "|" + x.count(6);
    }

    private static void newObject() {
        RestMill x = new RestMill();
        dueText(1, "state", state(x), "0|1|7 11 13?|0 0 0 0 0 0 0 0|0 0 0 0 0 0 0 0|0");
        due(1, "truncateInput(1)", x.truncateInput(1) ? 1 : 0, 0);
        due(1, "appendInput", x.appendInput(0, 0, 0, 0, 0), 20);
        due(1, "errorCode", x.errorCode(), RestMill.NO_ERROR);
        due(1, "errorOffset", x.errorOffset(), -1);
        dueThrow(1, "restoreState", ELEMENT, () -> x.restoreState());
        dueThrow(1, "undo", ELEMENT, () -> x.undo());
        due(1, "outputByte of a new object", new RestMill().outputByte(0), -1);
    }

    private static void input() {
        RestMill x = new RestMill();
        for (int k = 1; k <= 25; k++) {
            due(2, "append " + k, x.appendInput(-1, 0, 1 << 31, 255, 256), 20 * k);
        }
        due(2, "append beyond 500", x.appendInput(0, 0, 0, 0, 0), -1);
        due(3, "truncate to 501", x.truncateInput(501) ? 1 : 0, 0);
        due(3, "truncate to 500", x.truncateInput(500) ? 1 : 0, 1);
        due(3, "truncate to 481", x.truncateInput(481) ? 1 : 0, 1);
        due(2, "append at 481", x.appendInput(0, 0, 0, 0, 0), -1);
        due(3, "truncate to -1", x.truncateInput(-1) ? 1 : 0, 0);
        due(3, "truncate to the least int", x.truncateInput(Integer.MIN_VALUE) ? 1 : 0, 0);
        due(3, "truncate to 480", x.truncateInput(480) ? 1 : 0, 1);
        due(3, "truncate to 481 again", x.truncateInput(481) ? 1 : 0, 0);
        due(2, "append at 480", x.appendInput(0, 0, 0, 0, 0), 500);
        due(3, "truncate to 0", x.truncateInput(0) ? 1 : 0, 1);
        due(2, "append at 0", x.appendInput(0x6d6f6475, 0x6c692032, 0x20333b20, 0x20202020, 0x20202020), 20);
        due(2, "the bytes in their order", x.loadMill(), 2);
        RestMill y = new RestMill();
        y.appendInput(0x6d6f6475, 0x6c692032, 0x2035203b, 0x80202020, 0x20202020);
        due(2, "a byte above 127", y.loadMill(), -1);
        due(2, "its offset", y.errorOffset(), 12);
    }

    private static void dueSetupError(String text, int code, int offset) {
        RestMill x = made("moduli 5 9; strict 1; set b - 7;");
        x.set(2, 3);
        x.saveState();
        String before = state(x);
        due(4, "load of '" + text + "'", load(x, text), -1);
        due(6, "errorCode of '" + text + "'", x.errorCode(), code);
        due(7, "errorOffset of '" + text + "'", x.errorOffset(), offset);
        dueText(4, "state after '" + text + "'", state(x), before);
        due(4, "the buffer after '" + text + "'", x.truncateInput(1) ? 1 : 0, 0);
        due(4, "the saved state after '" + text + "'", x.restoreState(), 2);
    }

    private static void setups() {
        RestMill x = new RestMill();
        x.set(0, 9);
        x.saveState();
        x.printRegister(0);
        due(4, "load", load(x, "moduli 7 9 5 4;checks 1;strict 1;set a 12;set h-5;"), 4);
        dueText(4, "output", output(x), "a=(2,9,9)=9");
        dueText(4, "state", state(x), "1|1|7 9 5 4?|12 0 0 0 0 0 0 -5|0 0 0 0 0 0 0 0|0");
        dueThrow(4, "restoreState after load", ELEMENT, () -> x.restoreState());
        due(4, "the buffer after load", x.truncateInput(1) ? 1 : 0, 0);
        due(4, "a least one", load(x, "moduli 2 3;"), 2);
        dueText(4, "its state", state(x), "0|0|2 3|0 0 0 0 0 0 0 0|0 0 0 0 0 0 0 0|0");
        due(4, "line feeds, no spaces", load(x, "\nmoduli\n97\n96 95;checks 2;set a-47;set b 48;"), 3);
        dueText(4, "their numbers", numbers(x), "-47 48 0 0 0 0 0 0");
        due(4, "leading zeros", load(x, "moduli 000000002 03 5 7 11 13;"), 6);
        due(4, "the bound", x.bound(1), 30030);
        due(4, "strict alone", load(x, "moduli 2 3 ; strict 0 ;"), 2);
        due(4, "set of -0", load(x, "moduli 2 3; checks 1; set a - 0;"), 2);
        due(4, "all set", load(x, "moduli 97 89;set h 1;set g 2;set f 3;set e 4;set d 5;set c 6;set b 7;set a - 4316;"), 2);
        dueText(4, "all numbers", numbers(x), "-4316 7 6 5 4 3 2 1");
        due(4, "WHOLE of 999999999 or less", load(x, "moduli 97 96 95 91 11;"), 5);
        due(4, "its WHOLE", x.bound(1), 97L * 96 * 95 * 91 * 11);
        setupErrors();
    }

    private static void setupErrors() {
        dueSetupError("", RestMill.SYNTAX, 0);
        dueSetupError("  ", RestMill.SYNTAX, 2);
        dueSetupError("modul 7 11;", RestMill.SYNTAX, 0);
        dueSetupError("modulis 7 11;", RestMill.SYNTAX, 0);
        dueSetupError("moduliz 7 11;", RestMill.SYNTAX, 0);
        dueSetupError("noduli 7 11;", RestMill.SYNTAX, 0);
        dueSetupError("moduli 7 11; checkz 1;", RestMill.SYNTAX, 13);
        dueSetupError("moduli 7 11; xtrict 1;", RestMill.SYNTAX, 13);
        dueSetupError("moduli 7 11; bet a 1;", RestMill.SYNTAX, 13);
        dueSetupError("moduli 7 11;set a 1;set b 1;set c 1;set d 1;set e 1;set f 1;set g 1;set h 1;set c 1;",
                RestMill.REPEATED, 80);
        dueSetupError(" Moduli 7 11;", RestMill.SYNTAX, 1);
        dueSetupError("moduli", RestMill.SYNTAX, 6);
        dueSetupError("moduli a 11;", RestMill.SYNTAX, 7);
        dueSetupError("moduli 7 ;", RestMill.SYNTAX, 9);
        dueSetupError("moduli 7 11", RestMill.SYNTAX, 11);
        dueSetupError("moduli 7 11 ", RestMill.SYNTAX, 12);
        dueSetupError("moduli 7 11 -", RestMill.SYNTAX, 12);
        dueSetupError("moduli 7 11, 13;", RestMill.SYNTAX, 11);
        dueSetupError("moduli 0000000007 11;", RestMill.SYNTAX, 7);
        dueSetupError("moduli 1 11;", RestMill.OUT_OF_RANGE, 7);
        dueSetupError("moduli 98 11;", RestMill.OUT_OF_RANGE, 7);
        dueSetupError("moduli 11 98;", RestMill.OUT_OF_RANGE, 10);
        dueSetupError("moduli 11 0;", RestMill.OUT_OF_RANGE, 10);
        dueSetupError("moduli 11 999999999;", RestMill.OUT_OF_RANGE, 10);
        dueSetupError("moduli 6 9;", RestMill.COMMON, 9);
        dueSetupError("moduli 7 7;", RestMill.COMMON, 9);
        dueSetupError("moduli 7 5 21;", RestMill.COMMON, 11);
        dueSetupError("moduli 97 89 83 79 73;", RestMill.OUT_OF_RANGE, 19);
        dueSetupError("moduli 97 89 83 79 89;", RestMill.OUT_OF_RANGE, 19);
        dueSetupError("moduli 2 3 5 7 11 13 17;", RestMill.TOO_MANY, 21);
        dueSetupError("moduli 2 3 5 7 11 13 26;", RestMill.COMMON, 21);
        dueSetupError("moduli 2 3 5 7 11 13 98;", RestMill.OUT_OF_RANGE, 21);
        dueSetupError("moduli 7 9 11 13 17 19 97;", RestMill.TOO_MANY, 23);
        dueSetupError("moduli 11 13 17 19 23 29 97;", RestMill.OUT_OF_RANGE, 25);
        dueSetupError("moduli 2 3 5 7 11 13 ; 17", RestMill.SYNTAX, 23);
        dueSetupError("moduli 7 11; checks 2;", RestMill.OUT_OF_RANGE, 20);
        dueSetupError("moduli 7 11 13 5; checks 3;", RestMill.OUT_OF_RANGE, 25);
        dueSetupError("moduli 7 11; checks ;", RestMill.SYNTAX, 20);
        dueSetupError("moduli 7 11; checks 1", RestMill.SYNTAX, 21);
        dueSetupError("moduli 7 11; checks 1; checks 1;", RestMill.SYNTAX, 23);
        dueSetupError("moduli 7 11; strict 2;", RestMill.OUT_OF_RANGE, 20);
        dueSetupError("moduli 7 11; strict -1;", RestMill.SYNTAX, 20);
        dueSetupError("moduli 7 11; strict 1; checks 1;", RestMill.SYNTAX, 23);
        dueSetupError("moduli 7 11; strict 1; strict 1;", RestMill.SYNTAX, 23);
        dueSetupError("moduli 7 11; set a 1; strict 1;", RestMill.SYNTAX, 22);
        dueSetupError("moduli 7 11; set i 1;", RestMill.SYNTAX, 17);
        dueSetupError("moduli 7 11; set ab 1;", RestMill.SYNTAX, 17);
        dueSetupError("moduli 7 11; set 1 1;", RestMill.SYNTAX, 17);
        dueSetupError("moduli 7 11; set a;", RestMill.SYNTAX, 18);
        dueSetupError("moduli 7 11; set a - - 1;", RestMill.SYNTAX, 21);
        dueSetupError("moduli 7 11; set a + 1;", RestMill.SYNTAX, 19);
        dueSetupError("moduli 7 11; set a 39;", RestMill.OUT_OF_RANGE, 19);
        dueSetupError("moduli 7 11; set a - 39;", RestMill.OUT_OF_RANGE, 21);
        dueSetupError("moduli 7 11; checks 1; set a 4;", RestMill.OUT_OF_RANGE, 29);
        dueSetupError("moduli 7 11; set a 38; set b 38; set a 39;", RestMill.REPEATED, 37);
        dueSetupError("moduli 7 11; set a 38; set h 38; set h", RestMill.REPEATED, 37);
        dueSetupError("moduli 7 11; set a 1; set", RestMill.SYNTAX, 25);
        dueSetupError("moduli 7 11; set a 1; a", RestMill.SYNTAX, 22);
        dueSetupError("moduli 7 11;;", RestMill.SYNTAX, 12);
    }

    private static void dueScriptError(String text, int code, int offset) {
        RestMill x = made("moduli 7 11 13; checks 1; set a 5; set b - 7;");
        x.set(2, 3);
        String before = state(x);
        due(5, "play of '" + text + "'", play(x, text), -1);
        due(6, "errorCode of '" + text + "'", x.errorCode(), code);
        due(7, "errorOffset of '" + text + "'", x.errorOffset(), offset);
        dueText(5, "state after '" + text + "'", state(x), before);
        due(5, "the buffer after '" + text + "'", x.truncateInput(1) ? 1 : 0, 0);
        due(5, "an empty script then", play(x, ""), 0);
        due(6, "errorCode then", x.errorCode(), RestMill.NO_ERROR);
        due(7, "errorOffset then", x.errorOffset(), -1);
    }

    private static void scriptErrors() {
        dueScriptError("a", RestMill.SYNTAX, 1);
        dueScriptError("a =", RestMill.SYNTAX, 3);
        dueScriptError("a = 1", RestMill.SYNTAX, 5);
        dueScriptError("a = 1 2;", RestMill.SYNTAX, 6);
        dueScriptError("a = ;", RestMill.SYNTAX, 4);
        dueScriptError("a + 1;", RestMill.SYNTAX, 2);
        dueScriptError("a = + 1;", RestMill.SYNTAX, 4);
        dueScriptError("a = 1 + ;", RestMill.SYNTAX, 8);
        dueScriptError("a = 1 * / 2;", RestMill.SYNTAX, 8);
        dueScriptError("a = (1;", RestMill.SYNTAX, 6);
        dueScriptError("a = 1);", RestMill.SYNTAX, 5);
        dueScriptError("a = ();", RestMill.SYNTAX, 5);
        dueScriptError("a = i;", RestMill.SYNTAX, 4);
        dueScriptError("i = 1;", RestMill.SYNTAX, 0);
        dueScriptError("1 = 1;", RestMill.SYNTAX, 0);
        dueScriptError(";", RestMill.SYNTAX, 0);
        dueScriptError("a = 1;;", RestMill.SYNTAX, 6);
        dueScriptError("set a 1;", RestMill.SYNTAX, 0);
        dueScriptError("a = scale;", RestMill.SYNTAX, 4);
        dueScriptError("a = 38; b = 39;", RestMill.OUT_OF_RANGE, 12);
        dueScriptError("a = -39;", RestMill.OUT_OF_RANGE, 5);
        dueScriptError("a = 39 &", RestMill.OUT_OF_RANGE, 4);
        dueScriptError("a = 1 & 39", RestMill.SYNTAX, 6);
        dueScriptError("a = 0000000001;", RestMill.SYNTAX, 4);
        dueScriptError("scale 1 1;", RestMill.SYNTAX, 6);
        dueScriptError("scale a;", RestMill.SYNTAX, 7);
        dueScriptError("scale a b;", RestMill.SYNTAX, 8);
        dueScriptError("scale a 3;", RestMill.OUT_OF_RANGE, 8);
        dueScriptError("scale a -1;", RestMill.SYNTAX, 8);
        dueScriptError("swap a;", RestMill.SYNTAX, 6);
        dueScriptError("swap a b c;", RestMill.SYNTAX, 9);
        dueScriptError("swap a 1;", RestMill.SYNTAX, 7);
        dueScriptError("mend;", RestMill.SYNTAX, 4);
        dueScriptError("mend x;", RestMill.SYNTAX, 5);
        dueScriptError("mend a b;", RestMill.SYNTAX, 7);
        dueScriptError("strict;", RestMill.SYNTAX, 6);
        dueScriptError("strict a;", RestMill.SYNTAX, 7);
        dueScriptError("strict 2;", RestMill.OUT_OF_RANGE, 7);
        dueScriptError("a=((((((-1))))));", RestMill.TOO_MANY, 8);
        dueScriptError("a=-(-(-(-1)));", RestMill.TOO_MANY, 8);
        dueScriptError("a=-------1;", RestMill.TOO_MANY, 8);
        dueScriptError("a=((((((1+2*(3)))))));", RestMill.TOO_MANY, 12);
        dueScriptError("a=((((((;", RestMill.SYNTAX, 8);
        String twenty = "a=1;b=1;c=1;d=1;a=1;b=1;c=1;d=1;a=1;b=1;c=1;d=1;a=1;b=1;c=1;d=1;a=1;b=1;c=1;d=1;";
        dueScriptError(twenty + "a", RestMill.TOO_MANY, 80);
        dueScriptError(twenty + " mend", RestMill.TOO_MANY, 81);
        dueScriptError(twenty + "i", RestMill.SYNTAX, 80);
        dueScriptError(twenty + ";", RestMill.SYNTAX, 80);
        String longest = "a=1" + "-1".repeat(248);
        dueScriptError(longest + ",", RestMill.SYNTAX, 499);
        dueScriptError(longest + " ", RestMill.SYNTAX, 500);
        RestMill x = new RestMill();
        due(5, "500 tokens", play(x, longest + ";"), 1);
        due(5, "their sum", x.number(0), -247);
        due(5, "20 statements", play(new RestMill(), twenty + " "), 20);
        due(5, "six open", play(new RestMill(), "a=-----(1)-(-1)+((((((2))))))-1-1*-1;"), 1);
    }

    private static void dueSum(String sum, long want) {
        RestMill x = made("moduli 7 11 13; set a 25; set b - 7; set c 2;");
        due(5, "play of d = " + sum, play(x, "d = " + sum + ";"), 1);
        due(5, "d = " + sum, x.number(3), want);
    }

    private static void scripts() {
        dueSum("7", 7);
        dueSum("a", 25);
        dueSum("-a", -25);
        dueSum("a - b - c", 30);
        dueSum("a + b * c", 11);
        dueSum("(a + b) * c", 36);
        dueSum("b / c", -4);
        dueSum("b / -c", 3);
        dueSum("-b / -c", -4);
        dueSum("b % c", 1);
        dueSum("b % -c", -1);
        dueSum("-b % -c", -1);
        dueSum("a / c * c", 24);
        dueSum("a * c / c % 4", 1);
        dueSum("- - a", 25);
        dueSum("a - -b", 18);
        dueSum("500 + 500", -1);
        dueSum("a * a * a", 15625 - 16 * 1001);
        dueSum("(((((-1)))))", -1);
        dueSum("1 - (2 - (3 - (4 - (5 - 6))))", -3);
        RestMill x = new RestMill();
        due(5, "an empty script", play(x, " \n"), 0);
        due(5, "is a change", x.count(6), 1);
        due(5, "play", play(x, "a=25;b=-10;c=a*b;strict 1;mend c;swap a b;scale b 0;"), 7);
        dueText(5, "numbers", numbers(x), "-10 3 36 0 0 0 0 0");
        dueText(5, "accounts", accounts(x), "5 0 0 0 0 0 1 7");
        due(5, "refused for 2 first", play(x, "a=1;b=38+38-38+1/0;c=1;"), 1);
        dueText(5, "numbers then", numbers(x), "1 3 36 0 0 0 0 0");
        dueText(5, "accounts then", accounts(x), "6 0 1 0 0 0 1 8");
        due(5, "refused for 1 first", play(x, "b=1/0+38+38;"), 0);
        dueText(5, "accounts at last", accounts(x), "6 1 1 0 0 0 1 8");
        due(5, "a script that did nothing is a change", x.count(6), 4);
        due(5, "mend of a sound one", play(x, "swap a b;mend a;swap a b;"), 1);
        dueText(5, "numbers of the swap", numbers(x), "3 1 36 0 0 0 0 0");
        due(5, "undo of it", x.undo(), 4);
        dueText(5, "accounts after undo", accounts(x), "6 1 1 0 0 0 1 8");
        dueText(5, "numbers after undo", numbers(x), "1 3 36 0 0 0 0 0");
        scriptsOfUnsoundNumbers();
    }

    private static void scriptsOfUnsoundNumbers() {
        RestMill x = new RestMill();
        x.hurt(0, 0, 1);
        due(5, "unsound in between", play(x, "b = 38 + 38 - 38;"), 1);
        due(5, "does not count", x.account(6), 0);
        due(5, "unsound at last", play(x, "b = 38 - 38 + 38 + 38;"), 1);
        due(5, "counts", x.account(6), 1);
        due(5, "a register alone is no operation", play(x, "strict 1; c = a;"), 2);
        due(5, "its number", x.number(2), x.number(0));
        due(5, "its result is not sound", x.account(6), 2);
        due(5, "0 less an unsound one", play(x, "c = -a;"), 0);
        due(5, "is refused for 2", x.account(2), 1);
        due(5, "strict 0 holds from there", play(x, "strict 0; c = -a; strict 1; c = a + 0;"), 3);
        due(5, "c", x.number(2), -x.number(0));
        due(5, "scale in a strict script", play(x, "scale a 1; scale b 2;"), 2);
        RestMill y = made("moduli 2 97 89; checks 2;");
        y.hurt(0, 1, 1);
        y.setStrict(1);
        due(5, "scale that stays unsound", play(y, "a = a; scale a 0;"), 1);
        due(5, "is refused for 2 too", y.account(2), 1);
    }

    private static void counts() {
        RestMill x = made("moduli 7 11 13; checks 1; strict 1; set a 5; set b - 5; set d 38;");
        x.hurt(4, 0, 1);
        x.hurt(5, 0, 6);
        int[] want = {3, 1, 1, 6, 3, below(x), 2};
        for (int what = 0; what < want.length; what++) {
            due(8, "count(" + what + ")", x.count(what), want[what]);
        }
        RestMill first = made("moduli 7 11; set a - 1;");
        due(8, "count(4) of the first alone not 0", first.count(4), 7);
        due(8, "count(5) of the first alone below 0", first.count(5), 1);
        first.setStrict(1);
        due(8, "count(3) of all sound", first.count(3), 8);
        for (int what : new int[] {-1, 7, Integer.MIN_VALUE, Integer.MAX_VALUE}) {
            dueThrow(8, "count(" + what + ")", ARGUMENT, () -> x.count(what));
        }
        for (int what : new int[] {-1, 8, Integer.MIN_VALUE, Integer.MAX_VALUE}) {
            dueThrow(9, "account(" + what + ")", ARGUMENT, () -> x.account(what));
        }
        for (int what : new int[] {-1, 3, Integer.MIN_VALUE, Integer.MAX_VALUE}) {
            dueThrow(10, "bound(" + what + ")", ARGUMENT, () -> x.bound(what));
        }
        RestMill y = new RestMill();
        y.operate(3, 0, 0, 0);
        y.setStrict(1);
        y.set(0, 38);
        y.operate(0, 1, 0, 0);
        y.mend(0);
        y.grow(77);
        y.set(0, 39);
        y.setStrict(0);
        y.operate(0, 1, 0, 0);
        play(y, "swap a b; c = 1; strict 0;");
        dueText(9, "accounts", accounts(y), "3 1 1 1 1 1 1 3");
        due(10, "RANGE", y.bound(0), 77);
        due(10, "WHOLE", y.bound(1), 1001);
        due(10, "HALF", y.bound(2), 38);
        RestMill z = made("moduli 2 3 5; checks 2;");
        due(10, "RANGE 2", z.bound(0), 2);
        due(10, "HALF of RANGE 2", z.bound(2), 0);
        due(10, "HALF of an even RANGE", made("moduli 7 4;").bound(2), 13);
    }

    private static int below(RestMill x) {
        int found = 0;
        for (int register = 0; register < 8; register++) {
            found += x.number(register) < 0 ? 1 : 0;
        }
        return found;
    }

    private static void ofModuli() {
        RestMill x = made("moduli 7 9 5 4; checks 1;");
        int[] row = {7, 9, 5, 4};
        for (int k = 0; k < 4; k++) {
            due(11, "modulus(" + k + ")", x.modulus(k), row[k]);
            for (int by = 0; by < 4; by++) {
                int inverse = x.inverse(k, by);
                due(12, "inverse(" + k + ", " + by + ") works", k == by ? inverse : inverse * row[k] % row[by], k == by ? 0 : 1);
                due(12, "inverse(" + k + ", " + by + ") in range", inverse >= (k == by ? 0 : 1) && inverse < row[by] ? 1 : 0, 1);
                due(13, "weight(" + k + ") by " + row[by], x.weight(k) % row[by], k == by ? 1 : 0);
            }
            due(13, "weight(" + k + ") in range", x.weight(k) >= 0 && x.weight(k) < 1260 ? 1 : 0, 1);
        }
        due(12, "inverse for 2", made("moduli 97 2;").inverse(0, 1), 1);
        for (int k : new int[] {-1, 4, 6, Integer.MIN_VALUE, Integer.MAX_VALUE}) {
            dueThrow(11, "modulus(" + k + ")", INDEX, () -> x.modulus(k));
            dueThrow(12, "inverse(" + k + ", 0)", INDEX, () -> x.inverse(k, 0));
            dueThrow(12, "inverse(0, " + k + ")", INDEX, () -> x.inverse(0, k));
            dueThrow(13, "weight(" + k + ")", INDEX, () -> x.weight(k));
            dueThrow(14, "rest(0, " + k + ")", INDEX, () -> x.rest(0, k));
            dueThrow(15, "digit(0, " + k + ")", INDEX, () -> x.digit(0, k));
            dueThrow(16, "part(0, " + k + ")", INDEX, () -> x.part(0, k));
            dueThrow(28, "numberWith(0, " + k + ", 0)", INDEX, () -> x.numberWith(0, k, 0));
            dueThrow(28, "numberWith(0, " + k + ", -1)", INDEX, () -> x.numberWith(0, k, -1));
            dueThrow(35, "hurt(0, " + k + ", 0)", INDEX, () -> x.hurt(0, k, 0));
            dueThrow(35, "hurt(0, " + k + ", -1)", INDEX, () -> x.hurt(0, k, -1));
            dueThrow(37, "scale(0, " + k + ")", INDEX, () -> x.scale(0, k));
            dueThrow(41, "drop(" + k + ")", INDEX, () -> x.drop(k));
        }
        due(35, "no change by what throws", x.count(6), 0);
    }

    private static void ofRegisters() {
        RestMill x = made("moduli 7 9 5 4; checks 1; set a 100; set b - 1; set c - 157; set d 157;");
        int[][] rests = {{2, 1, 0, 0}, {6, 8, 4, 3}, {4, 5, 3, 3}, {3, 4, 2, 1}};
        long[] values = {100, 1259, 1103, 157};
        for (int r = 0; r < 4; r++) {
            long byDigits = 0;
            long place = 1;
            long sum = 0;
            for (int k = 0; k < 4; k++) {
                due(14, "rest(" + r + ", " + k + ")", x.rest(r, k), rests[r][k]);
                byDigits += x.digit(r, k) * place;
                place *= x.modulus(k);
                due(15, "digit below its modulus", x.digit(r, k) >= 0 && x.digit(r, k) < x.modulus(k) ? 1 : 0, 1);
                long part = x.part(r, k);
                sum += part;
                for (int by = 0; by < 4; by++) {
                    due(16, "part(" + r + ", " + k + ") by " + x.modulus(by), part % x.modulus(by), by == k ? rests[r][k] : 0);
                }
                due(16, "part in range", part >= 0 && part < 1260 ? 1 : 0, 1);
            }
            due(15, "the digits together", byDigits, values[r]);
            due(17, "rank(" + r + ")", x.rank(r), (sum - values[r]) / 1260);
            due(18, "value(" + r + ")", x.value(r), values[r]);
        }
        due(15, "digit(0, 0)", x.digit(0, 0), 2);
        due(15, "digit(0, 1)", x.digit(0, 1), 5);
        due(15, "digit(0, 2)", x.digit(0, 2), 1);
        due(15, "digit(0, 3)", x.digit(0, 3), 0);
        due(17, "rank of 0", x.rank(7), 0);
        due(19, "number(1)", x.number(1), -1);
        RestMill whole = made("moduli 3 5; set a 7; set b - 7;");
        due(19, "WHOLE less 1 by 2", whole.number(0), 7);
        due(18, "its VALUE", whole.value(0), 7);
        due(19, "WHOLE plus 1 by 2", whole.number(1), -7);
        due(18, "its VALUE", whole.value(1), 8);
        due(19, "number(2)", x.number(2), -157);
        due(19, "number(3)", x.number(3), 157);
        due(20, "isSound(2)", x.isSound(2) ? 1 : 0, 1);
        due(20, "isSound(3)", x.isSound(3) ? 1 : 0, 1);
        RestMill y = made("moduli 7 4; set a 13; set b - 13; set c 1;");
        y.operate(0, 3, 0, 2);
        y.operate(1, 4, 1, 2);
        due(19, "NUMBER is WHOLE by 2", y.number(3), -14);
        due(18, "its VALUE", y.value(3), 14);
        due(19, "NUMBER one below -HALF", y.number(4), -14);
        due(20, "NUMBER of -WHOLE by 2 is not sound", y.isSound(3) ? 1 : 0, 0);
        RestMill z = made("moduli 7 11 13; checks 1; set a 38; set b - 38; set c 1;");
        z.operate(0, 3, 0, 2);
        z.operate(1, 4, 1, 2);
        due(20, "HALF + 1", z.isSound(3) ? 1 : 0, 0);
        due(20, "-HALF - 1", z.isSound(4) ? 1 : 0, 0);
        due(19, "HALF + 1", z.number(3), 39);
        due(19, "-HALF - 1", z.number(4), -39);
        registersThatAreNone();
    }

    private static void registersThatAreNone() {
        RestMill x = new RestMill();
        for (int r : NO_REGISTERS) {
            dueThrow(14, "rest", INDEX, () -> x.rest(r, 0));
            dueThrow(15, "digit", INDEX, () -> x.digit(r, 0));
            dueThrow(16, "part", INDEX, () -> x.part(r, 0));
            dueThrow(17, "rank", INDEX, () -> x.rank(r));
            dueThrow(18, "value", INDEX, () -> x.value(r));
            dueThrow(19, "number", INDEX, () -> x.number(r));
            dueThrow(20, "isSound", INDEX, () -> x.isSound(r) ? 1 : 0);
            dueThrow(21, "compare of the first", INDEX, () -> x.compare(r, 0));
            dueThrow(21, "compare of the second", INDEX, () -> x.compare(0, r));
            dueThrow(22, "extend", INDEX, () -> x.extend(r, 2, true));
            dueThrow(22, "extend by 1", INDEX, () -> x.extend(r, 1, true));
            dueThrow(24, "distance of the first", INDEX, () -> x.distance(r, 0));
            dueThrow(24, "distance of the second", INDEX, () -> x.distance(0, r));
            dueThrow(25, "exact of the first", INDEX, () -> x.exact(3, r, 0));
            dueThrow(25, "exact of the second", INDEX, () -> x.exact(3, 0, r));
            dueThrow(25, "exact of no operation", ARGUMENT, () -> x.exact(5, r, 0));
            dueThrow(26, "why of the first", INDEX, () -> x.why(3, r, 0));
            dueThrow(26, "why of the second", INDEX, () -> x.why(3, 0, r));
            dueThrow(26, "why of no operation", ARGUMENT, () -> x.why(-1, r, 0));
            dueThrow(27, "faults", INDEX, () -> x.faults(r));
            dueThrow(28, "numberWith", INDEX, () -> x.numberWith(r, 0, 0));
            dueThrow(28, "numberWith of a wrong rest", INDEX, () -> x.numberWith(r, 0, 7));
            dueThrow(34, "set", INDEX, () -> x.set(r, 0));
            dueThrow(34, "set of a number out of range", INDEX, () -> x.set(r, 1000000001));
            dueThrow(35, "hurt", INDEX, () -> x.hurt(r, 0, 0));
            dueThrow(35, "hurt of a wrong rest", INDEX, () -> x.hurt(r, 0, 7));
            dueThrow(36, "operate to", INDEX, () -> x.operate(0, r, 0, 0));
            dueThrow(36, "operate of the first", INDEX, () -> x.operate(3, 0, r, 0));
            dueThrow(36, "operate of the second", INDEX, () -> x.operate(3, 0, 0, r));
            dueThrow(36, "operate of no operation", ARGUMENT, () -> x.operate(5, r, r, r));
            dueThrow(37, "scale", INDEX, () -> x.scale(r, 0));
            dueThrow(38, "mend", INDEX, () -> x.mend(r));
            dueThrow(39, "swap of the first", INDEX, () -> x.swap(r, 0));
            dueThrow(39, "swap of the second", INDEX, () -> x.swap(0, r));
            dueThrow(44, "printRegister", INDEX, () -> x.printRegister(r));
        }
        dueText(34, "nothing is changed by what throws", state(x), state(new RestMill()));
    }

    private static void told() {
        RestMill x = made("moduli 7 11 13; checks 1; set a 25; set b - 10; set c 25; set d 4;");
        due(21, "compare(0, 1)", x.compare(0, 1), 1);
        due(21, "compare(1, 0)", x.compare(1, 0), -1);
        due(21, "compare(0, 2)", x.compare(0, 2), 0);
        due(21, "compare(3, 3)", x.compare(3, 3), 0);
        due(22, "extend of NUMBER", x.extend(1, 100, true), 90);
        due(22, "extend of VALUE", x.extend(1, 100, false), 91);
        due(22, "extend by 2", x.extend(0, 2, true), 1);
        due(22, "extend by 9999", x.extend(1, 9999, true), 9989);
        due(22, "extend of VALUE by 9999", x.extend(1, 9999, false), 991);
        for (int by : new int[] {1, 0, -1, 10000, Integer.MIN_VALUE, Integer.MAX_VALUE}) {
            dueThrow(22, "extend by " + by, ARGUMENT, () -> x.extend(0, by, true));
        }
        due(23, "gap", x.gap(), 0);
        due(24, "distance(0, 2)", x.distance(0, 2), 0);
        due(24, "distance(0, 1)", x.distance(0, 1), 2);
        due(24, "distance(0, 3)", x.distance(0, 3), 2);
        due(24, "distance(1, 3)", x.distance(1, 3), 2);
        due(24, "distance(3, 7)", x.distance(3, 7), 3);
        x.hurt(2, 2, 0);
        due(24, "distance by one rest", x.distance(0, 2), 1);
        due(23, "gap then", x.gap(), 0);
        long[] exact = {15, 35, -250, -3, -5};
        int[] why = {0, 0, 0, 0, 0};
        for (int operation = 0; operation < 5; operation++) {
            due(25, "exact(" + operation + ", 0, 1)", x.exact(operation, 0, 1), exact[operation]);
            due(26, "why(" + operation + ", 0, 1)", x.why(operation, 0, 1), why[operation]);
        }
        dueThrow(25, "exact by 0", STATE, () -> x.exact(3, 0, 7));
        dueThrow(25, "exact rest by 0", STATE, () -> x.exact(4, 0, 7));
        due(25, "exact product with 0", x.exact(2, 0, 7), 0);
        due(26, "why by 0", x.why(3, 0, 7), 1);
        due(26, "why rest by 0", x.why(4, 0, 7), 1);
        for (int operation : new int[] {-1, 5, Integer.MIN_VALUE, Integer.MAX_VALUE}) {
            dueThrow(25, "exact(" + operation + ")", ARGUMENT, () -> x.exact(operation, 0, 1));
            dueThrow(26, "why(" + operation + ")", ARGUMENT, () -> x.why(operation, 0, 1));
            dueThrow(36, "operate(" + operation + ")", ARGUMENT, () -> x.operate(operation, 0, 0, 1));
        }
        whyOfResults();
    }

    private static void whyOfResults() {
        RestMill x = made("moduli 7 11 13; checks 1; set a 25; set b - 10; set c 38;");
        due(26, "unsound, but right", x.why(2, 0, 1), 0);
        due(26, "not right", x.why(2, 0, 2), 6);
        x.setStrict(1);
        due(26, "unsound and strict", x.why(2, 0, 1), 2);
        due(26, "sound and strict", x.why(0, 0, 1), 0);
        due(26, "by 0 and strict", x.why(3, 0, 7), 1);
        String before = state(x);
        x.why(2, 0, 1);
        dueText(26, "no change", state(x), before);
        RestMill y = made("moduli 7 11 13; checks 1; strict 1; set a 32;");
        due(26, "32 * 32 is not right, but sound", y.why(2, 0, 0), 6);
        due(36, "and is done", y.operate(2, 0, 0, 0), 0);
        due(36, "as 23", y.number(0), 23);
        RestMill z = made("moduli 7 4; set b - 1;");
        z.hurt(0, 0, 0);
        z.hurt(0, 1, 2);
        due(25, "exact of -14 by -1", z.exact(3, 0, 1), 14);
        due(26, "why of -14 by -1", z.why(3, 0, 1), 6);
        due(36, "-14 by -1", z.operate(3, 2, 0, 1), 0);
        due(36, "its NUMBER", z.number(2), -14);
        RestMill w = made("moduli 97 96 95 91 11; set a 442698960; set b - 442698960;");
        due(25, "a great product", w.exact(2, 0, 1), -442698960L * 442698960L);
        due(26, "a great product is not right", w.why(2, 0, 1), 6);
        due(25, "a great difference", w.exact(1, 1, 0), -885397920L);
    }

    private static void faults() {
        RestMill x = made("moduli 7 11 13; checks 1; set a 25; set b - 10;");
        due(27, "faults of a sound one", x.faults(0), 0);
        x.operate(2, 2, 0, 1);
        due(27, "faults(2)", x.faults(2), 7);
        due(28, "numberWith(2, 1, 1)", x.numberWith(2, 1, 1), 23);
        due(28, "numberWith of its own rest", x.numberWith(2, 1, x.rest(2, 1)), -250);
        due(28, "no change", x.number(2), -250);
        for (int rest : new int[] {-1, 11, 13, Integer.MIN_VALUE, Integer.MAX_VALUE}) {
            dueThrow(28, "numberWith(2, 1, " + rest + ")", ARGUMENT, () -> x.numberWith(2, 1, rest));
            dueThrow(35, "hurt(2, 1, " + rest + ")", ARGUMENT, () -> x.hurt(2, 1, rest));
        }
        due(38, "mend", x.mend(2), 0);
        due(38, "the least rest of the first fault", x.number(2), 36);
        due(38, "mend of a sound one", x.mend(2), 3);
        dueText(38, "accounts", accounts(x), "2 0 0 1 0 0 1 0");
        RestMill y = made("moduli 7 11; set a 38; set b 1;");
        y.operate(0, 2, 0, 1);
        due(20, "without checks all are sound", y.isSound(2) ? 1 : 0, 1);
        RestMill z = made("moduli 7 11 13 5; checks 2; set a 30; set c 30;");
        z.hurt(0, 2, 0);
        due(27, "one wrong rest, two checks", z.faults(0), 4);
        due(38, "mend of it", z.mend(0), 0);
        due(38, "is what it was", z.number(0), 30);
        z.hurt(2, 0, 0);
        z.hurt(2, 1, 0);
        z.hurt(2, 2, 9);
        due(27, "wrong in many ways", z.faults(2), manyFaults(z, 2));
        due(38, "mend of it", z.mend(2), manyFaults(z, 2) == 0 && !z.isSound(2) ? 3 : 0);
        RestMill w = made("moduli 4 3;");
        w.hurt(0, 0, 2);
        due(27, "-6 without checks", w.number(0), -6);
        due(27, "its faults", w.faults(0), 3);
        due(38, "its mend", w.mend(0), 0);
        due(38, "its NUMBER then", w.number(0), 0);
        unmendable();
    }

    private static int manyFaults(RestMill x, int register) {
        int set = 0;
        if (x.isSound(register)) {
            return set;
        }
        for (int k = 0; k < x.count(0); k++) {
            for (int rest = 0; rest < x.modulus(k); rest++) {
                if (Math.abs(x.numberWith(register, k, rest)) <= x.bound(2)) {
                    set |= 1 << k;
                }
            }
        }
        return set;
    }

    private static void unmendable() {
        RestMill x = made("moduli 5 7 97 89; checks 2; set a 3;");
        x.hurt(0, 2, 50);
        x.hurt(0, 3, 60);
        due(27, "two wrong checks", x.faults(0), 0);
        String before = state(x);
        due(38, "mend that cannot be", x.mend(0), 3);
        due(38, "its account", x.account(3), 1);
        due(38, "no change", x.count(6), 2);
        due(38, "the rest of the state", before.equals(state(x).replace("|0 0 0 1 0 0 0 0|", "|0 0 0 0 0 0 0 0|")) ? 1 : 0, 1);
        due(5, "mend in a script", play(x, "mend a; b = 1;"), 0);
        due(5, "its account", x.account(3), 2);
        due(5, "its number", x.number(1), 0);
    }

    private static void found() {
        due(29, "nextModulus of 7 11 13", new RestMill().nextModulus(), 2);
        due(29, "of 2 3 5", made("moduli 2 3 5;").nextModulus(), 7);
        due(29, "of 6 moduli", made("moduli 2 3 5 7 11 13;").nextModulus(), RestMill.NONE);
        due(29, "of 6 35", made("moduli 6 35;").nextModulus(), 11);
        due(29, "WHOLE too great by 2", made("moduli 97 95 89 83 9;").nextModulus(), RestMill.NONE);
        due(29, "WHOLE just fits", made("moduli 97 89 83 79 3;").nextModulus(), 2);
        due(29, "WHOLE too great by 5", made("moduli 97 89 83 79 6;").nextModulus(), RestMill.NONE);
        RestMill x = new RestMill();
        due(30, "spare of three", x.spare(), 7);
        due(30, "spare of two", made("moduli 7 11;").spare(), 0);
        due(30, "the only base", made("moduli 7 11 13; checks 2;").spare(), 6);
        RestMill y = made("moduli 7 11 13; set a 40;");
        due(30, "a number that needs 7 and 13", y.spare(), 3);
        due(30, "drop of 13 is refused", y.drop(2), 4);
        due(30, "drop of 7", y.drop(0), 0);
        due(30, "spare then", y.spare(), 0);
        RestMill z = made("moduli 2 7 11 13; set a - 77;");
        due(30, "-WHOLE by 2 without 13", z.spare() >> 3 & 1, 1);
        due(41, "and drop() likewise", z.drop(3), 0);
        due(41, "NUMBER stays", z.number(0), -77);
        due(41, "WHOLE then", z.bound(1), 154);
        RestMill z2 = made("moduli 2 7 11 13; set h 77;");
        due(30, "WHOLE by 2 without 13", z2.spare() >> 3 & 1, 0);
        RestMill w = made("moduli 7 11 13; set c - 9; set d 9; set e 8;");
        due(31, "greatest on a tie", w.greatest(), 2);
        due(31, "greatest of zeros", new RestMill().greatest(), 0);
        w.set(7, 10);
        due(31, "greatest at the end", w.greatest(), 7);
        w.set(1, -11);
        due(31, "greatest in the second register", w.greatest(), 1);
        w.set(1, 0);
        w.set(0, -11);
        due(31, "greatest below 0", w.greatest(), 0);
        due(32, "mean", Double.compare(w.mean(), (-11 - 9 + 9 + 8 + 10) / 8.0) == 0 ? 1 : 0, 1);
        due(32, "mean of zeros", Double.compare(new RestMill().mean(), 0.0) == 0 ? 1 : 0, 1);
        due(33, "zeroShare of zeros", Float.compare(new RestMill().zeroShare(), 1.0f) == 0 ? 1 : 0, 1);
        RestMill v = made("moduli 7 11 13; set a 1; set b 7;");
        due(33, "zeroShare", Float.compare(v.zeroShare(), 19f / 24f) == 0 ? 1 : 0, 1);
    }

    private static void changes() {
        RestMill x = new RestMill();
        due(34, "set(0, 38)", x.set(0, 38), 0);
        due(34, "set(0, 39)", x.set(0, 39), 5);
        due(34, "set(1, -38)", x.set(1, -38), 0);
        due(34, "set(1, -39)", x.set(1, -39), 5);
        due(34, "set to the greatest", x.set(1, 1000000000), 5);
        due(34, "set to the least", x.set(1, -1000000000), 5);
        for (int number : new int[] {1000000001, -1000000001, Integer.MIN_VALUE, Integer.MAX_VALUE}) {
            dueThrow(34, "set to " + number, ARGUMENT, () -> x.set(0, number));
        }
        dueText(34, "accounts", accounts(x), "2 0 0 0 0 4 0 0");
        due(34, "a refused one is no change", x.count(6), 2);
        due(35, "hurt", x.hurt(0, 2, 5), 12);
        due(35, "rest", x.rest(0, 2), 5);
        due(35, "other rests", x.rest(0, 0) * 100 + x.rest(0, 1), 305);
        due(35, "to the same", x.hurt(0, 2, 5), 5);
        due(35, "is a change too", x.count(6), 4);
        dueText(35, "but no act", accounts(x), "2 0 0 0 0 4 0 0");
        RestMill y = new RestMill();
        y.set(0, 25);
        y.set(1, -10);
        due(36, "sum", y.operate(0, 2, 0, 1), 0);
        due(36, "difference", y.operate(1, 3, 0, 1), 0);
        due(36, "product", y.operate(2, 4, 0, 1), 0);
        due(36, "quotient", y.operate(3, 5, 0, 1), 0);
        due(36, "remainder", y.operate(4, 6, 0, 1), 0);
        due(36, "by 0", y.operate(3, 0, 0, 7), 1);
        due(36, "rest by 0", y.operate(4, 0, 0, 7), 1);
        dueText(36, "numbers", numbers(y), "25 -10 15 35 -250 -3 -5 0");
        dueText(36, "accounts", accounts(y), "7 2 0 0 0 0 1 0");
        due(42, "setStrict(1)", y.setStrict(1), 0);
        due(42, "setStrict(1) again", y.setStrict(1), 1);
        due(36, "unsound and strict", y.operate(2, 0, 0, 1), 2);
        due(36, "by 0 and strict", y.operate(3, 0, 4, 7), 1);
        due(36, "onto itself", y.operate(1, 0, 0, 0), 0);
        dueText(36, "numbers then", numbers(y), "0 -10 15 35 -250 -3 -5 0");
        dueText(36, "accounts then", accounts(y), "8 3 1 0 0 0 1 0");
        due(42, "setStrict is no act, but a change", y.count(6), 8);
        due(42, "setStrict(0)", y.setStrict(0), 1);
        for (int strict : new int[] {-1, 2, Integer.MIN_VALUE, Integer.MAX_VALUE}) {
            dueThrow(42, "setStrict(" + strict + ")", ARGUMENT, () -> y.setStrict(strict));
        }
        scales();
    }

    private static void scales() {
        RestMill x = made("moduli 7 11 13; checks 1; set a 25; set b - 25; set c 7; set d - 7;");
        due(37, "scale 25 by 7", x.scale(0, 0), 0);
        due(37, "scale -25 by 7", x.scale(1, 0), 0);
        due(37, "scale 7 by 7", x.scale(2, 0), 0);
        due(37, "scale -7 by 13", x.scale(3, 2), 0);
        due(37, "scale 0 by 11", x.scale(4, 1), 0);
        dueText(37, "numbers", numbers(x), "3 -4 1 -1 0 0 0 0");
        dueText(37, "accounts", accounts(x), "5 0 0 0 0 0 0 0");
        RestMill y = new RestMill();
        y.hurt(0, 0, 1);
        long number = y.number(0);
        due(37, "unsound", y.isSound(0) ? 1 : 0, 0);
        RestMill z = made("moduli 2 97 89; checks 2;");
        z.hurt(0, 1, 1);
        long before = z.number(0);
        due(37, "scale that stays unsound", z.scale(0, 0), 0);
        due(37, "its number", z.number(0), Math.floorDiv(before, 2));
        due(37, "its account", z.account(6), 1);
        z.setStrict(1);
        due(37, "refused then", z.scale(0, 0), 2);
        due(37, "not changed", z.number(0), Math.floorDiv(before, 2));
        due(37, "its account then", z.account(2), 1);
        due(37, "scale that becomes sound", y.scale(0, 2), Math.abs(Math.floorDiv(number, 13)) <= 38 ? 0 : 2);
        RestMill w = made("moduli 7 11 13; set a 3; set b 5;");
        due(39, "swap", w.swap(0, 1), 1);
        due(39, "swap back", w.swap(0, 1), -1);
        due(39, "swap with itself", w.swap(0, 0), 0);
        due(39, "swap of alike ones", w.swap(6, 7), 0);
        due(39, "changes", w.count(6), 4);
        dueText(39, "numbers", numbers(w), "3 5 0 0 0 0 0 0");
        dueText(39, "no act", accounts(w), "0 0 0 0 0 0 0 0");
        due(39, "undo", w.undo() + w.undo() + w.undo(), 3 + 2 + 1);
        dueText(39, "numbers after undo", numbers(w), "5 3 0 0 0 0 0 0");
    }

    private static void comeAndGo() {
        RestMill x = made("moduli 7 11 13; checks 1; set a - 38; set b 5;");
        due(40, "grow by 14", x.grow(14), 4);
        due(40, "grow by 13", x.grow(13), 4);
        due(40, "grow by 2", x.grow(2), 0);
        dueText(40, "moduli", moduli(x), "7 11 2 13?");
        due(40, "RANGE", x.bound(0), 154);
        dueText(40, "numbers", numbers(x), "-38 5 0 0 0 0 0 0");
        dueText(40, "register", register(x, 0), "a=(4,6,0,1)=-38");
        due(40, "grow by 97", x.grow(97), 0);
        due(40, "grow by 96", x.grow(95), 0);
        dueText(40, "moduli then", moduli(x), "7 11 2 97 95 13?");
        due(40, "a 7th", x.grow(3), 4);
        dueText(40, "accounts", accounts(x), "3 0 0 0 3 0 0 0");
        for (int modulus : new int[] {1, 0, -1, 98, Integer.MIN_VALUE, Integer.MAX_VALUE}) {
            dueThrow(40, "grow by " + modulus, ARGUMENT, () -> x.grow(modulus));
        }
        due(40, "WHOLE too great", made("moduli 97 95 89 83 9;").grow(2), 4);
        due(40, "without checks", checkedGrow(), 1);
        due(41, "drop a check", x.drop(5), 0);
        due(41, "CHECKS", x.count(1), 0);
        dueText(41, "moduli", moduli(x), "7 11 2 97 95");
        due(41, "drop a base", x.drop(1), 0);
        dueText(41, "moduli then", moduli(x), "7 2 97 95");
        dueText(41, "register", register(x, 0), "a=(4,0,59,57)=-38");
        dueText(41, "weights follow", x.weight(0) % 7 + " " + x.weight(0) % 2 + " " + x.weight(0) % 97, "1 0 0");
        due(41, "two more", x.drop(0) + x.drop(0), 0);
        due(41, "of two moduli", x.drop(0), 4);
        dueText(41, "accounts", accounts(x), "7 0 0 0 4 0 0 0");
        due(41, "undo", x.undo(), 6);
        dueText(41, "moduli after undo", moduli(x), "2 97 95");
        RestMill y = made("moduli 5 7 11 13; checks 2;");
        due(41, "a base of two", y.drop(0), 0);
        due(41, "the only base", y.drop(0), 4);
        due(41, "the first of two checks", y.drop(1), 0);
        dueText(41, "moduli of them", moduli(y), "7 13?");
        due(41, "CHECKS of them", y.count(1), 1);
        RestMill z = new RestMill();
        z.hurt(0, 0, 1);
        String before = numbers(z);
        due(41, "a NUMBER that could not be told", z.drop(2), 4);
        due(40, "grow with an unsound one", z.grow(2), 0);
        dueText(40, "keeps its NUMBER", numbers(z), before);
        dueText(40, "and no account of unsound results", accounts(z), "1 0 0 0 1 0 0 0");
    }

    private static int checkedGrow() {
        RestMill x = made("moduli 4 3; set a - 5;");
        x.grow(5);
        return moduli(x).equals("4 3 5") && register(x, 0).equals("a=(3,1,0)=-5") ? 1 : 0;
    }

    private static void undoes() {
        RestMill x = new RestMill();
        dueThrow(43, "undo of nothing", ELEMENT, () -> x.undo());
        for (int k = 1; k <= 10; k++) {
            x.set(0, k);
            due(43, "changes kept", x.count(6), Math.min(k, 8));
        }
        x.mend(0);
        due(43, "accounts before", x.account(3), 1);
        feed(x, "a = ");
        x.printRegister(0);
        for (int k = 7; k >= 0; k--) {
            due(43, "undo", x.undo(), k);
            due(43, "its number", x.number(0), k + 2);
            due(43, "its acts", x.account(0), k + 2);
            due(43, "what was refused since", x.account(3), 0);
        }
        dueThrow(43, "a ninth undo", ELEMENT, () -> x.undo());
        due(43, "the number then", x.number(0), 2);
        dueText(43, "the output stays", output(x), "a=(3,10,10)=10");
        due(43, "the input stays", x.playScript(), -1);
        due(43, "its offset", x.errorOffset(), 4);
        x.set(1, 1);
        due(43, "undo again", x.undo(), 0);
        due(43, "the error stays", x.errorOffset(), 4);
        due(43, "the error code stays", x.errorCode(), RestMill.SYNTAX);
        RestMill y = new RestMill();
        y.set(0, 3);
        y.undo();
        y.set(0, 4);
        due(43, "one that was undone is kept no more", y.undo(), 0);
        due(43, "its number", y.number(0), 0);
        RestMill z = new RestMill();
        for (int k = 1; k <= 8; k++) {
            z.set(0, k);
        }
        z.set(0, 39);
        z.operate(3, 0, 0, 1);
        due(43, "a refused act puts no change away", z.count(6), 8);
        for (int k = 7; k >= 0; k--) {
            z.undo();
        }
        due(43, "the oldest is still there", z.number(0), 0);
        RestMill w = new RestMill();
        w.setStrict(1);
        w.hurt(0, 0, 1);
        w.grow(2);
        due(43, "a refused drop is no change", w.drop(0), 4);
        play(w, "b = 1; c = 2; strict 0;");
        due(43, "a script is one change", w.undo(), 3);
        due(43, "STRICT", w.count(2), 1);
        dueText(43, "all back", w.undo() + moduli(w) + w.undo() + w.number(0) + w.undo() + w.count(2), "27 11 13?10" + "00");
    }

    private static void dueUndo(String what, RestMill x, String before, long changed) {
        due(43, what + " is a change", x.count(6), changed);
        x.undo();
        dueText(43, "state after undo of " + what, state(x), before);
    }

    private static void undoOfEach() {
        RestMill x = made("moduli 7 11 13; checks 1; set a 25; set b - 10; set c 3;");
        String before = state(x);
        x.set(0, 1);
        dueUndo("set", x, before, 1);
        x.operate(2, 0, 0, 1);
        dueUndo("operate", x, before, 1);
        x.scale(0, 0);
        dueUndo("scale", x, before, 1);
        x.swap(0, 1);
        dueUndo("swap", x, before, 1);
        x.setStrict(1);
        dueUndo("setStrict", x, before, 1);
        x.grow(2);
        dueUndo("grow", x, before, 1);
        x.drop(1);
        dueUndo("drop", x, before, 1);
        play(x, "a = b * c; swap a b; strict 1;");
        dueUndo("a script", x, before, 1);
        x.hurt(2, 1, 0);
        dueUndo("hurt", x, before, 1);
        x.hurt(2, 1, 0);
        before = state(x);
        x.mend(2);
        dueUndo("mend", x, before, 2);
    }

    private static void prints() {
        RestMill x = made("moduli 7 11 13; checks 2; set b - 3; set c 1;");
        due(44, "printRegister(1)", x.printRegister(1), 13);
        dueText(44, "register b", output(x), "b=(4,8,10)=-3");
        due(44, "printRegister(7)", x.printRegister(7), 11);
        dueText(44, "register h", output(x), "h=(0,0,0)=0");
        x.hurt(2, 0, 5);
        x.printRegister(2);
        dueText(44, "register c", output(x), "c=(5,1,1)=" + x.number(2) + "!");
        dueThrow(44, "printRegister(8)", INDEX, () -> x.printRegister(8));
        due(44, "keeps the output", x.outputByte(0), 'c');
        due(45, "printModuli", x.printModuli(), 9);
        dueText(45, "moduli", output(x), "7 11? 13?");
        due(46, "outputByte(0)", x.outputByte(0), '7');
        due(46, "outputByte(8)", x.outputByte(8), '?');
        due(46, "outputByte(9)", x.outputByte(9), -1);
        due(46, "outputByte(-1)", x.outputByte(-1), -1);
        due(46, "outputByte of the least int", x.outputByte(Integer.MIN_VALUE), -1);
        due(46, "outputByte of the greatest int", x.outputByte(Integer.MAX_VALUE), -1);
        RestMill y = made("moduli 97 96 95 91 11; set a - 442698960;");
        y.printRegister(0);
        dueText(44, "a long one", output(y), "a=(" + y.rest(0, 0) + "," + y.rest(0, 1) + "," + y.rest(0, 2) + ","
                + y.rest(0, 3) + "," + y.rest(0, 4) + ")=-442698960");
    }

    private static void states() {
        RestMill x = made("moduli 7 11 13; checks 1; strict 1; set a 5;");
        dueThrow(48, "restoreState of none", ELEMENT, () -> x.restoreState());
        x.set(1, 6);
        x.set(2, 39);
        due(47, "saveState", x.saveState(), 3);
        due(47, "is no change", x.count(6), 1);
        String saved = state(x).replaceAll("[0-9]$", "0");
        x.grow(2);
        x.setStrict(0);
        x.set(0, 9);
        x.undo();
        feed(x, "a = ");
        x.printRegister(1);
        due(48, "restoreState", x.restoreState(), 3);
        dueText(48, "the output stays", output(x), "b=(6,6,0,6)=6");
        dueText(48, "state", state(x), saved);
        due(48, "the input stays", x.playScript(), -1);
        due(48, "the error of it", x.errorOffset(), 4);
        dueThrow(48, "undo after restoreState", ELEMENT, () -> x.undo());
        x.set(3, 1);
        due(48, "restoreState again", x.restoreState(), 3);
        due(48, "the error stays", x.errorOffset(), 4);
        dueText(48, "state again", state(x), saved);
        x.grow(2);
        due(47, "saveState in its place", x.saveState(), 4);
        x.undo();
        due(47, "moduli after undo", x.count(0), 3);
        due(48, "undo leaves the saved state", x.restoreState(), 4);
        due(47, "accounts are saved", x.account(5), 1);
    }

    public static void main(String[] args) {
        newObject();
        input();
        setups();
        scripts();
        scriptErrors();
        counts();
        ofModuli();
        ofRegisters();
        told();
        faults();
        found();
        changes();
        comeAndGo();
        undoes();
        undoOfEach();
        prints();
        states();
        System.out.println(asked + " answers, " + wrong + " not as due");
        if (wrong != 0) {
            System.exit(1);
        }
    }
}
