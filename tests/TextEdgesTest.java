/**
 * The sentences of the document's section 4 (texts) and of the promises 2 to 7 that name a boundary
 * case, each with a test of its own.
 */
public final class TextEdgesTest extends Sentences {
    private static final String ONE_CHECK = "moduli 7 11 13; checks 1;";
    private static final String WIDE = "moduli 97 89;";
    private static final String TEN = "a=1;a=1;a=1;a=1;a=1;a=1;a=1;a=1;a=1;a=1;";
    private static final String TWENTY = TEN + TEN;

    private static final int SYNTAX = RestMill.SYNTAX;
    private static final int OUT_OF_RANGE = RestMill.OUT_OF_RANGE;
    private static final int REPEATED = RestMill.REPEATED;
    private static final int COMMON = RestMill.COMMON;
    private static final int TOO_MANY = RestMill.TOO_MANY;

    private static void dueSum(String sum, long want) {
        RestMill x = made("moduli 7 11 13; set a 25; set b - 7; set c 2;");
        due("play of d = " + sum, play(x, "d = " + sum + ";"), 1);
        due("d = " + sum, x.number(3), want);
    }

    private static RestMill filledTo(int length) {
        RestMill x = new RestMill();
        for (int at = 0; at < length; at += 20) {
            x.appendInput(0x20202020, 0x20202020, 0x20202020, 0x20202020, 0x20202020);
        }
        due("truncateInput(" + length + ")", x.truncateInput(length), true);
        return x;
    }

    // Section 4: the setup

    private static void bufferOf500() {
        RestMill x = filledTo(500);
        dueLength("the length", x, 500);
        due("a script of 500 bytes", play(new RestMill(), "a=1" + "-1".repeat(248) + ";"), 1);
        dueScriptError("a=1" + "-1".repeat(248) + " ", SYNTAX, 500);
        dueScriptError("a=1" + "-1".repeat(248) + "&", SYNTAX, 499);
        dueSetupError(" ".repeat(500), SYNTAX, 500);
        due("a setup of 500 bytes", load(new RestMill(), " ".repeat(488) + "moduli 7 11;"), 2);
    }

    private static void registerWords() {
        for (char letter = 'a'; letter <= 'h'; letter++) {
            RestMill x = new RestMill();
            due("load of set " + letter, load(x, "moduli 7 11; set " + letter + " 5;"), 2);
            due("its number", x.number(letter - 'a'), 5);
            due("the others", x.count(4), 7);
        }
        for (char letter = 'i'; letter <= 'z'; letter++) {
            dueSetupError("moduli 7 11; set " + letter + " 5;", SYNTAX, 17);
        }
        for (String word : new String[] {"aa", "ab", "A", "H", "`", "5"}) {
            dueSetupError("moduli 7 11; set " + word + " 5;", SYNTAX, 17);
        }
    }

    private static void setupForm() {
        dueLoaded("moduli 7 11;", 2);
        dueLoaded("moduli 7 11; checks 1;", 2);
        dueLoaded("moduli 7 11; strict 1;", 2);
        dueLoaded("moduli 7 11; set a 1;", 2);
        dueLoaded("moduli 7 11; checks 1; set a 1;", 2);
        dueLoaded("moduli 7 11; checks 1; strict 1; set a 1; set b - 1;", 2);
        dueSetupError("checks 1;", SYNTAX, 0);
        dueSetupError("moduli 7 11; strict 1; checks 1;", SYNTAX, 23);
        dueSetupError("moduli 7 11; set a 1; checks 1;", SYNTAX, 22);
        dueSetupError("moduli 7 11; set a 1; strict 1;", SYNTAX, 22);
        dueSetupError("moduli 7 11; checks 1; checks 1;", SYNTAX, 23);
        dueSetupError("moduli 7 11; strict 1; strict 1;", SYNTAX, 23);
        dueSetupError("moduli 7 11; moduli 7 11;", SYNTAX, 13);
        dueSetupError("moduli 7 11;;", SYNTAX, 12);
        dueSetupError("moduli 7 - 11;", SYNTAX, 9);
        dueSetupError("moduli 7 11; scale a 0;", SYNTAX, 13);
        dueSetupError("moduli 7 11; a = 1;", SYNTAX, 13);
    }

    private static void bracketsLeftOut() {
        String[] checks = {"", " checks 1;"};
        String[] strict = {"", " strict 1;"};
        String[] sets = {"", " set a 3;", " set a - 3;"};
        for (int k = 0; k < 12; k++) {
            String text = "moduli 7 11;" + checks[k % 2] + strict[k / 2 % 2] + sets[k / 4];
            RestMill x = new RestMill();
            due("load of '" + text + "'", load(x, text), 2);
            due("CHECKS", x.count(1), k % 2);
            due("STRICT", x.count(2), k / 2 % 2);
            due("NUMBER of a", x.number(0), new int[] {0, 3, -3}[k / 4]);
        }
        dueSetupError("moduli 7;", SYNTAX, 8);
        dueSetupError("moduli 7 11; set a;", SYNTAX, 18);
    }

    private static void anyNumberOfSets() {
        StringBuilder text = new StringBuilder("moduli 7 11;");
        for (char letter = 'a'; letter <= 'h'; letter++) {
            dueLoaded(text.toString(), 2);
            text.append("set ").append(letter).append(" 5;");
        }
        dueLoaded(text.toString(), 2);
        dueSetupError(text + "set c 5;", REPEATED, text.length() + 4);
        dueSetupError(text + "set i 5;", SYNTAX, text.length() + 4);
    }

    private static void checksAndStrictLeftOut() {
        RestMill x = made("moduli 7 11 13; checks 2; strict 1;");
        due("CHECKS", x.count(1), 2);
        due("STRICT", x.count(2), 1);
        load(x, "moduli 7 11 13;");
        due("CHECKS without it", x.count(1), 0);
        due("STRICT without it", x.count(2), 0);
        load(x, "moduli 7 11 13; checks 0; strict 0;");
        due("CHECKS of 0", x.count(1), 0);
        due("STRICT of 0", x.count(2), 0);
    }

    private static void setGivesNumber() {
        RestMill x = made(ONE_CHECK + " set a 38; set b - 38; set c 0; set d - 0;");
        due("the numbers", numbersOf(x), "38 -38 0 0 0 0 0 0 ");
        RestMill y = made("moduli 4 3; set a 5; set b - 5;");
        due("the numbers of an even WHOLE", numbersOf(y), "5 -5 0 0 0 0 0 0 ");
        dueSetupError(ONE_CHECK + " set a + 1;", SYNTAX, 32);
        dueSetupError(ONE_CHECK + " set a - - 1;", SYNTAX, 34);
        dueSetupError(ONE_CHECK + " set a b;", SYNTAX, 32);
        dueSetupError(ONE_CHECK + " set a (1);", SYNTAX, 32);
    }

    // Section 4: the script

    private static void scriptForm() {
        duePlayed("", 0);
        duePlayed(" \n ", 0);
        duePlayed("a = 1;", 1);
        duePlayed("a=b;scale a 0;swap a b;swap a a;strict 0;strict 1;", 6);
        dueScriptError(";", SYNTAX, 0);
        dueScriptError("a = 1;;", SYNTAX, 6);
        dueScriptError("a = 1 b = 1;", SYNTAX, 6);
        dueScriptError("set a 1;", SYNTAX, 0);
        dueScriptError("moduli 7 11;", SYNTAX, 0);
        dueScriptError("checks 1;", SYNTAX, 0);
    }

    private static void statementForm() {
        dueScriptError("a 1;", SYNTAX, 2);
        dueScriptError("a == 1;", SYNTAX, 3);
        dueScriptError("1 = a;", SYNTAX, 0);
        dueScriptError("scale 0 a;", SYNTAX, 6);
        dueScriptError("scale a b;", SYNTAX, 8);
        dueScriptError("scale a 0 0;", SYNTAX, 10);
        dueScriptError("scale a - 0;", SYNTAX, 8);
        dueScriptError("swap a;", SYNTAX, 6);
        dueScriptError("swap 1 a;", SYNTAX, 5);
        dueScriptError("swap a 1;", SYNTAX, 7);
        dueScriptError("swap a b c;", SYNTAX, 9);
        dueScriptError("mend;", SYNTAX, 4);
        dueScriptError("mend 1;", SYNTAX, 5);
        dueScriptError("mend a b;", SYNTAX, 7);
        dueScriptError("strict;", SYNTAX, 6);
        dueScriptError("strict a;", SYNTAX, 7);
        dueScriptError("strict 1 1;", SYNTAX, 9);
        duePlayed("mend a;", 0);
        duePlayed("strict 1;", 1);
    }

    private static void sumForm() {
        dueScriptError("a = ;", SYNTAX, 4);
        dueScriptError("a = + 1;", SYNTAX, 4);
        dueScriptError("a = 1 + ;", SYNTAX, 8);
        dueScriptError("a = 1 - * 2;", SYNTAX, 8);
        dueScriptError("a = b = 1;", SYNTAX, 6);
        dueSum("1", 1);
        dueSum("1 + 2", 3);
        dueSum("1 - - 1", 2);
        dueSum("1" + " + 1".repeat(60), 61);
    }

    private static void productForm() {
        dueScriptError("a = * 1;", SYNTAX, 4);
        dueScriptError("a = 1 * + 2;", SYNTAX, 8);
        dueScriptError("a = 1 / ;", SYNTAX, 8);
        dueScriptError("a = 1 % );", SYNTAX, 8);
        dueScriptError("a = 1 * * 2;", SYNTAX, 8);
        dueSum("2 * - 3", -6);
        dueSum("2 * 3 * 4", 24);
        dueSum("1" + " * 1".repeat(60), 1);
    }

    private static void factorForm() {
        dueScriptError("a = 1 2;", SYNTAX, 6);
        dueScriptError("a = b c;", SYNTAX, 6);
        dueScriptError("a = 1 (2);", SYNTAX, 6);
        dueScriptError("a = (1) 2;", SYNTAX, 8);
        dueScriptError("a = ();", SYNTAX, 5);
        dueScriptError("a = (1;", SYNTAX, 6);
        dueScriptError("a = 1);", SYNTAX, 5);
        dueScriptError("a = -;", SYNTAX, 5);
        dueScriptError("a = (1 + );", SYNTAX, 9);
        dueScriptError("a = swap;", SYNTAX, 4);
        dueScriptError("a = i;", SYNTAX, 4);
        dueSum("25", 25);
        dueSum("a", 25);
        dueSum("- a", -25);
        dueSum("((25))", 25);
        dueSum("- (1 + 2) * 3", -9);
        dueSum("- a * - b", -175);
    }

    private static void numberOfModulusOrNumber() {
        RestMill x = made("moduli 7 11 13; set a 100; set b 100; set c 100;");
        due("scale by each", play(x, "scale a 0; scale b 1; scale c 2;"), 3);
        due("the numbers", numbersOf(x), "14 9 7 0 0 0 0 0 ");
        dueScriptError(x, "scale a 3;", OUT_OF_RANGE, 8);
        due("the error of the last of two", load(x, "moduli 7 11;"), 2);
        dueScriptError(x, "scale a 2;", OUT_OF_RANGE, 8);
        due("the last of two", play(x, "scale a 1;"), 1);
        RestMill y = made(ONE_CHECK);
        due("a factor that is a NUMBER", play(y, "a = 3; b = 38;"), 2);
        due("the numbers of factors", numbersOf(y), "3 38 0 0 0 0 0 0 ");
    }

    private static void quotientAndRemainder() {
        dueSum("b / c", -4);
        dueSum("7 / -2", -4);
        dueSum("-7 / -2", 3);
        dueSum("b % c", 1);
        dueSum("7 % -2", -1);
        dueSum("b % -2", -1);
        dueSum("-7 / 2", -4);
        dueSum("-(7 / 2)", -3);
    }

    private static void minusAheadOfFactor() {
        dueSum("-b", 7);
        dueSum("-0", 0);
        dueSum("--b", -7);
        RestMill x = made("moduli 4 3;");
        x.hurt(0, 0, 2);
        due("-a of -6", play(x, "b = -a;"), 1);
        due("is the difference of 0 and it", x.number(1), -6);
        due("and is not sound", x.account(6), 1);
        due("-a while STRICT is 1", play(x, "strict 1; b = -a;"), 1);
        due("is refused", x.account(2), 1);
    }

    private static void workedOutFromTheLeft() {
        dueSum("10 - 3 - 2", 5);
        dueSum("10 - 3 + 2", 9);
        dueSum("100 / 10 / 5", 2);
        dueSum("100 / 10 * 5", 50);
        dueSum("7 * 5 / 10", 3);
        dueSum("17 % 10 % 4", 3);
        dueSum("17 % 10 * 3", 21);
        dueSum("20 / 6 % 2", 1);
        dueSum("1 + 2 * 3", 7);
        dueSum("2 * 3 + 1", 7);
        dueSum("10 - 2 * 3 - 1", 3);
        dueSum("10 - (3 - 2)", 9);
    }

    // Section 4: tokens

    private static boolean isGap(int sign) {
        return sign == ' ' || sign == '\n';
    }

    private static boolean isLetter(int sign) {
        return sign >= 'a' && sign <= 'z';
    }

    private static boolean isDigit(int sign) {
        return sign >= '0' && sign <= '9';
    }

    private static void everyByteBehindRegister() {
        for (int sign = 0; sign < 256; sign++) {
            String text = "a" + (char) sign + "=1;";
            if (isGap(sign)) {
                duePlayed(text, 1);
            } else if (isLetter(sign)) {
                dueScriptError(text, SYNTAX, 0);
            } else {
                dueScriptError(text, SYNTAX, sign == '=' ? 2 : 1);
            }
        }
    }

    private static void everyByteAsFactor() {
        for (int sign = 0; sign < 256; sign++) {
            String text = "a=" + (char) sign + ";";
            if (isDigit(sign) || sign >= 'a' && sign <= 'h') {
                duePlayed(text, 1);
            } else {
                dueScriptError(text, SYNTAX, isGap(sign) || sign == '(' || sign == '-' ? 3 : 2);
            }
        }
    }

    private static void everyByteBetweenNumbers() {
        for (int sign = 0; sign < 256; sign++) {
            String text = "a=7" + (char) sign + "3;";
            RestMill x = made(WIDE);
            int operation = "+-*/%".indexOf((char) sign);
            if (operation >= 0) {
                due("play of " + text, play(x, text), 1);
                due(text, x.number(0), new int[] {10, 4, 21, 2, 1}[operation]);
            } else if (isDigit(sign)) {
                due("play of " + text, play(x, text), 1);
                due(text, x.number(0), 703 + 10 * (sign - '0'));
            } else {
                boolean isBehind = isGap(sign) || sign == ';';
                dueScriptError(x, text, SYNTAX, isBehind ? 4 : 3);
            }
        }
    }

    private static String withOtherLetter(String word, int at) {
        return word.substring(0, at) + (word.charAt(at) == 'z' ? 'y' : 'z') + word.substring(at + 1);
    }

    private static void wordsOfEachLetter() {
        String[][] setups = {{"", "moduli", " 7 11;"}, {"moduli 7 11;", "checks", " 1;"}, {"moduli 7 11;", "strict", " 1;"},
            {"moduli 7 11;", "set", " a 1;"}};
        String[][] scripts = {{"", "scale", " a 0;"}, {"a = 1;", "swap", " a b;"}, {"", "mend", " a;"}, {"", "strict", " 1;"}};
        for (String[] one : setups) {
            dueLoaded(one[0] + one[1] + one[2], 2);
            for (int at = 0; at < one[1].length(); at++) {
                dueSetupError(one[0] + withOtherLetter(one[1], at) + one[2], SYNTAX, one[0].length());
            }
        }
        for (String[] one : scripts) {
            for (int at = 0; at < one[1].length(); at++) {
                dueScriptError(one[0] + withOtherLetter(one[1], at) + one[2], SYNTAX, one[0].length());
            }
        }
    }

    private static void statementsDo() {
        RestMill x = made("moduli 7 11 13; checks 1; set a 25; set b - 7;");
        due("swap", play(x, "swap a b;"), 1);
        due("the numbers", numbersOf(x), "-7 25 0 0 0 0 0 0 ");
        due("scale", play(x, "scale b 1;"), 1);
        due("the numbers then", numbersOf(x), "-7 2 0 0 0 0 0 0 ");
        due("a sum", play(x, "h = a + b;"), 1);
        due("its number", x.number(7), -5);
        due("strict", play(x, "strict 1;"), 1);
        due("STRICT", x.count(2), 1);
        due("strict again", play(x, "strict 0;"), 1);
        due("STRICT then", x.count(2), 0);
        due("mend", play(x, "c = 38 + 1; mend c;"), 2);
        due("its number then", x.number(2), -38);
    }

    private static void maximalWords() {
        dueSetupError("modul i 7 11;", SYNTAX, 0);
        dueSetupError("modulis 7 11;", SYNTAX, 0);
        dueSetupError("Moduli 7 11;", SYNTAX, 0);
        dueSetupError("moduli 7 11; seta 5;", SYNTAX, 13);
        dueSetupError("moduli 7 11; check 1;", SYNTAX, 13);
        dueSetupError("moduli 7 11; stric 1;", SYNTAX, 13);
        dueScriptError("scalea 0;", SYNTAX, 0);
        dueScriptError("scal a 0;", SYNTAX, 0);
        dueScriptError("swap ab;", SYNTAX, 5);
        dueScriptError("swapa b;", SYNTAX, 0);
        dueScriptError("mends a;", SYNTAX, 0);
        dueScriptError("strictly 1;", SYNTAX, 0);
        dueLoaded("moduli7 11;checks1;strict1;set a3;", 2);
        duePlayed("scale a0;strict1;a=b+1;", 3);
    }

    private static void numbersOfNineDigits() {
        dueLoaded("moduli 7 000000011;", 2);
        dueLoaded("moduli 7 11; checks 000000001; strict 000000001; set a 000000003;", 2);
        duePlayed("a = 000000007; scale a 000000001; strict 000000001;", 3);
        RestMill x = made("moduli 41 49 61 85 96;");
        due("a NUMBER of nine digits", play(x, "a = 499999919; b = 012345678; c = 0;"), 3);
        due("the greatest", x.number(0), 499999919);
        due("all its digits", x.number(1), 12345678);
        dueScriptError("a = 999999999;", OUT_OF_RANGE, 4);
    }

    private static void numbersTooLong() {
        dueSetupError("moduli 7 0000000011;", SYNTAX, 9);
        dueSetupError("moduli 0000000007 11;", SYNTAX, 7);
        dueSetupError("moduli 7 11; checks 0000000001;", SYNTAX, 20);
        dueSetupError("moduli 7 11; strict 0000000001;", SYNTAX, 20);
        dueSetupError("moduli 7 11; set a 0000000001;", SYNTAX, 19);
        dueScriptError("a = 0000000007;", SYNTAX, 4);
        dueScriptError("scale a 0000000001;", SYNTAX, 8);
        dueScriptError("strict 0000000001;", SYNTAX, 7);
        dueScriptError("a = 1000000000;", SYNTAX, 4);
        dueScriptError("a = 4294967297;", SYNTAX, 4);
        dueScriptError("a = " + "9".repeat(400) + ";", SYNTAX, 4);
        dueScriptError(made("moduli 41 49 61 85 96;"), "a = 0499999919;", SYNTAX, 4);
    }

    private static void gapsBetweenTokens() {
        dueLoaded("\n moduli\n\n7  11\n ;\nchecks\n1\n;\n", 2);
        duePlayed(" a\n=\n- \n ( 1\n)\n; \n", 1);
        for (char sign : new char[] {0, 9, 11, 12, 13, 31, 33, 127, 128, 160, 255}) {
            dueSetupError("moduli 7 11;" + sign, SYNTAX, 12);
            dueSetupError(sign + "moduli 7 11;", SYNTAX, 0);
            dueScriptError("a =" + sign + "1;", SYNTAX, 3);
        }
        dueSetupError("mod uli 7 11;", SYNTAX, 0);
        dueScriptError("a = 1 1;", SYNTAX, 6);
        dueScriptError("a = 1\n1;", SYNTAX, 6);
        dueScriptError("s wap a b;", SYNTAX, 0);
    }

    // Section 4: errors

    private static void firstErrorMet() {
        dueSetupError("moduli 98 98 &", OUT_OF_RANGE, 7);
        dueSetupError("moduli 7 98 &", OUT_OF_RANGE, 9);
        dueSetupError("moduli 7 7 98;", COMMON, 9);
        dueSetupError("moduli 7 11; checks 2; strict 2;", OUT_OF_RANGE, 20);
        dueSetupError("moduli 7 11; set a 39; set a 39;", OUT_OF_RANGE, 19);
        dueSetupError("moduli 7 11; set a 38; set a 39;", REPEATED, 27);
        dueScriptError("a = 39; &", OUT_OF_RANGE, 4);
        dueScriptError("a = &; b = 39;", SYNTAX, 4);
        dueScriptError("a = 0000000001; b = 39;", SYNTAX, 4);
        dueScriptError("scale a 3; mend", OUT_OF_RANGE, 8);
        dueScriptError("a = (39;", OUT_OF_RANGE, 5);
    }

    private static void smallestCodeOfOneToken() {
        dueSetupError("moduli 2 3 5 7 11 13 0000000017;", SYNTAX, 21);
        dueSetupError("moduli 2 3 5 7 11 13 98;", OUT_OF_RANGE, 21);
        dueSetupError("moduli 2 3 5 7 11 13 0;", OUT_OF_RANGE, 21);
        dueSetupError("moduli 11 13 17 19 23 29 31;", TOO_MANY, 25);
        dueSetupError("moduli 11 13 17 19 23 29 37;", OUT_OF_RANGE, 25);
        dueSetupError("moduli 2 3 5 7 11 13 14;", COMMON, 21);
        dueSetupError("moduli 2 3 5 7 11 13 17;", TOO_MANY, 21);
        dueSetupError("moduli 2 98;", OUT_OF_RANGE, 9);
        dueSetupError("moduli 2 0;", OUT_OF_RANGE, 9);
        dueSetupError("moduli 41 51 67 83 82;", COMMON, 19);
        dueSetupError("moduli 41 51 67 83 96;", OUT_OF_RANGE, 19);
        dueSetupError("moduli 7 19 25 47 79 95;", OUT_OF_RANGE, 21);
        dueScriptError(TWENTY + "i = 1;", SYNTAX, 80);
        dueScriptError(TWENTY + "set a 1;", SYNTAX, 80);
        dueScriptError(TWENTY + "a = 1;", TOO_MANY, 80);
    }

    private static void syntaxAtTheToken() {
        dueSetupError("moduli  ;", SYNTAX, 8);
        dueSetupError("moduli 7 11  strict 1;", SYNTAX, 13);
        dueSetupError("moduli 7 11 , 13;", SYNTAX, 12);
        dueSetupError("moduli 7 11; checks ;", SYNTAX, 20);
        dueSetupError("moduli 7 11; checks a;", SYNTAX, 20);
        dueSetupError("moduli 7 11; checks 1 1;", SYNTAX, 22);
        dueSetupError("moduli 7 11; strict 1 1;", SYNTAX, 22);
        dueSetupError("moduli 7 11; set a 1 1;", SYNTAX, 21);
        dueSetupError("moduli 7 11; set;", SYNTAX, 16);
        dueSetupError("moduli 7 11; set a;", SYNTAX, 18);
        dueSetupError("moduli 7 11; set a -;", SYNTAX, 20);
        dueScriptError("a = 1 &&;", SYNTAX, 6);
        dueScriptError("a = (  );", SYNTAX, 7);
    }

    private static void syntaxAtTheEnd() {
        String setup = "moduli 7 9 ; checks 1 ; strict 1 ; set a - 1 ; ";
        for (int length = 0; length < setup.length(); length++) {
            String text = setup.substring(0, length);
            String[] whole = {"moduli 7 9 ;", "moduli 7 9 ; checks 1 ;", "moduli 7 9 ; checks 1 ; strict 1 ;",
                "moduli 7 9 ; checks 1 ; strict 1 ; set a - 1 ;"};
            boolean isWhole = false;
            for (String one : whole) {
                isWhole |= text.trim().equals(one);
            }
            if (isWhole) {
                dueLoaded(text, 2);
            } else if (!endsInsideWord(text)) {
                dueSetupError(text, SYNTAX, length);
            }
        }
        for (String text : new String[] {"a", "a ", "a =", "a = 1", "a = 1 ", "a = 1 +", "a = 1 *", "a = -", "a = (", "a = (1",
            "a = (1)", "scale", "scale a", "scale a 1", "swap", "swap a", "swap a b", "mend", "mend a", "strict", "strict 1\n"}) {
            dueScriptError(text, SYNTAX, text.length());
        }
        duePlayed("a = 1;", 1);
    }

    private static void moreIsRequired() {
        dueSetupError("", SYNTAX, 0);
        dueSetupError("moduli 7 9", SYNTAX, 10);
        dueSetupError("moduli 7 9; set a 1", SYNTAX, 19);
        dueScriptError("a = 1", SYNTAX, 5);
        dueScriptError("a = (1", SYNTAX, 6);
        dueScriptError("mend a; mend", SYNTAX, 12);
        dueLoaded("moduli 7 9;", 2);
        duePlayed("", 0);
        duePlayed("a = 1;", 1);
    }

    /** A word that is cut off is another one, so that the error is the word and not the end. */
    private static boolean endsInsideWord(String text) {
        String last = text.substring(text.lastIndexOf(' ') + 1);
        return last.length() > 0 && isLetter(last.charAt(0)) && !last.matches("moduli|checks|strict|set|a");
    }

    private static void outOfRangeModulus() {
        dueSetupError("moduli 1 11;", OUT_OF_RANGE, 7);
        dueSetupError("moduli 0 11;", OUT_OF_RANGE, 7);
        dueSetupError("moduli 98 11;", OUT_OF_RANGE, 7);
        dueSetupError("moduli 999999999 11;", OUT_OF_RANGE, 7);
        dueSetupError("moduli 11 13 1;", OUT_OF_RANGE, 13);
        dueLoaded("moduli 2 97;", 2);
        dueLoaded("moduli 97 2;", 2);
    }

    private static void outOfRangeChecks() {
        dueLoaded("moduli 7 11; checks 0;", 2);
        dueLoaded("moduli 7 11; checks 1;", 2);
        dueSetupError("moduli 7 11; checks 2;", OUT_OF_RANGE, 20);
        dueLoaded("moduli 7 11 13; checks 2;", 3);
        dueSetupError("moduli 7 11 13; checks 3;", OUT_OF_RANGE, 23);
        dueLoaded("moduli 2 3 5 7 11 13; checks 2;", 6);
        dueSetupError("moduli 2 3 5 7 11 13; checks 3;", OUT_OF_RANGE, 29);
        dueSetupError("moduli 2 3 5 7 11 13; checks 999999999;", OUT_OF_RANGE, 29);
    }

    private static void outOfRangeStrict() {
        dueLoaded("moduli 7 11; strict 0;", 2);
        dueLoaded("moduli 7 11; strict 1;", 2);
        dueSetupError("moduli 7 11; strict 2;", OUT_OF_RANGE, 20);
        duePlayed("strict 0; strict 1;", 2);
        dueScriptError("strict 2;", OUT_OF_RANGE, 7);
        dueScriptError("strict 999999999;", OUT_OF_RANGE, 7);
    }

    private static void outOfRangeModulusNumber() {
        duePlayed("scale a 0; scale a 2;", 2);
        dueScriptError("scale a 3;", OUT_OF_RANGE, 8);
        RestMill two = made("moduli 7 11;");
        dueScriptError(two, "scale a 2;", OUT_OF_RANGE, 8);
        RestMill six = made("moduli 2 3 5 7 11 13;");
        due("the last of six", play(six, "scale a 5;"), 1);
        dueScriptError(six, "scale a 6;", OUT_OF_RANGE, 8);
        two.grow(13);
        due("of one that came", play(two, "scale a 2;"), 1);
        two.drop(0);
        dueScriptError(two, "scale a 2;", OUT_OF_RANGE, 8);
    }

    private static void outOfRangeNumber() {
        dueLoaded(ONE_CHECK + " set a 38; set b - 38;", 3);
        dueSetupError(ONE_CHECK + " set a 39;", OUT_OF_RANGE, 32);
        dueSetupError(ONE_CHECK + " set a - 39;", OUT_OF_RANGE, 34);
        dueLoaded("moduli 7 11 13; set a 500;", 3);
        dueSetupError("moduli 7 11 13; set a 501;", OUT_OF_RANGE, 22);
        dueLoaded("moduli 4 3; set a - 5;", 2);
        dueSetupError("moduli 4 3; set a - 6;", OUT_OF_RANGE, 20);
        dueLoaded("moduli 2 3 5; checks 2; set a 0;", 3);
        dueSetupError("moduli 2 3 5; checks 2; set a 1;", OUT_OF_RANGE, 30);
        duePlayed("a = 38; b = -38; c = 1 + (2 * 38);", 3);
        dueScriptError("a = 39;", OUT_OF_RANGE, 4);
        dueScriptError("a = -39;", OUT_OF_RANGE, 5);
        dueScriptError("a = 1 + (2 * 39);", OUT_OF_RANGE, 13);
        RestMill x = made(ONE_CHECK);
        x.grow(2);
        due("HALF after grow()", play(x, "a = 76;"), 1);
        dueScriptError(x, "a = 77;", OUT_OF_RANGE, 4);
        x.undo();
        x.undo();
        dueScriptError(x, "a = 39;", OUT_OF_RANGE, 4);
    }

    private static void wholeTooGreat() {
        dueLoaded("moduli 41 49 61 85 96;", 5);
        dueLoaded("moduli 3 32 41 49 61 85;", 6);
        dueSetupError("moduli 7 19 25 47 79 81;", OUT_OF_RANGE, 21);
        dueSetupError("moduli 81 79 47 25 19 7;", OUT_OF_RANGE, 22);
        dueSetupError("moduli 41 51 67 83 86;", OUT_OF_RANGE, 19);
        dueSetupError("moduli 97 96 95 91 89 83;", OUT_OF_RANGE, 19);
    }

    private static void registerSetAgain() {
        dueSetupError("moduli 7 11; set a 1; set a 1;", REPEATED, 26);
        dueSetupError("moduli 7 11; set h 1; set a 1; set h 2;", REPEATED, 35);
        dueSetupError("moduli 7 11; set a 0; set a", REPEATED, 26);
        dueSetupError("moduli 7 11; set a 1; set a &", REPEATED, 26);
        dueLoaded("moduli 7 11; set h 1; set a 1;", 2);
    }

    private static void commonWithOneAhead() {
        dueSetupError("moduli 6 9;", COMMON, 9);
        dueSetupError("moduli 6 35 13 9;", COMMON, 15);
        dueSetupError("moduli 6 35 13 26;", COMMON, 15);
        dueSetupError("moduli 7 7;", COMMON, 9);
        dueSetupError("moduli 2 96;", COMMON, 9);
        dueLoaded("moduli 6 35 13 11;", 4);
    }

    private static void seventhModulus() {
        dueLoaded("moduli 2 3 5 7 11 13;", 6);
        dueSetupError("moduli 2 3 5 7 11 13 17;", TOO_MANY, 21);
        dueSetupError("moduli 2 3 5 7 11 13 17 98;", TOO_MANY, 21);
        dueSetupError("moduli 2 3 5 7 11 13 17 &", TOO_MANY, 21);
        dueSetupError("moduli 2 3 5 7 11 13", SYNTAX, 20);
    }

    private static void statement21() {
        duePlayed(TWENTY.substring(4), 19);
        duePlayed(TWENTY, 20);
        duePlayed(TWENTY + " \n", 20);
        for (String first : new String[] {"a", "h", "scale", "swap", "mend", "strict"}) {
            dueScriptError(TWENTY + " " + first + " &", TOO_MANY, 81);
        }
        for (String none : new String[] {";", "i", "1", "set", "moduli", "checks", "&", "(", "-"}) {
            dueScriptError(TWENTY + " " + none, SYNTAX, 81);
        }
    }

    private static void insideSixOthers() {
        duePlayed("a = ((((((1))))));", 1);
        dueScriptError("a = (((((((1)))))));", TOO_MANY, 10);
        duePlayed("a = ------1;", 1);
        dueScriptError("a = -------1;", TOO_MANY, 10);
        duePlayed("a = (-(-(-1)));", 1);
        dueScriptError("a = (-(-(-(1))));", TOO_MANY, 10);
        dueScriptError("a = (-(-(--1)));", TOO_MANY, 10);
        dueScriptError("a = ((((((1 + 2 * (3)))))));", TOO_MANY, 18);
        dueScriptError("a = ((((((1 + 2 * -3))))));", TOO_MANY, 18);
        dueScriptError("a = (((((((&", TOO_MANY, 10);
        dueScriptError("a = ((((((;", SYNTAX, 10);
        duePlayed("a = ((((((1 - 2))))));", 1);
    }

    private static void openUntilItsEnd() {
        duePlayed("a = ((((((1)))))) + ((((((1))))));", 1);
        duePlayed("a = (((((1) + (1) * (1) - (1)))));", 1);
        duePlayed("a = (((((-1 + -1 * -1 - -1 - -1)))));", 1);
        duePlayed("a = -----(1) + -----(1);", 1);
        duePlayed("a = -----(1 + 1);", 1);
        duePlayed("a = ------1 * ------1 - ------1;", 1);
        dueScriptError("a = -----(1 + (1));", TOO_MANY, 14);
        dueScriptError("a = -----(1 + -1);", TOO_MANY, 14);
        duePlayed("a = (((((1)))) + ((((1)))));", 1);
        dueScriptError("a = (((((1)))) + ((((((1)))))));", TOO_MANY, 22);
    }

    private static void errorChangesNothing() {
        RestMill x = made("moduli 7 11 13; checks 1; strict 1; set a 5; set b - 7;");
        x.set(2, 3);
        x.set(2, 39);
        x.saveState();
        x.set(2, 4);
        x.printRegister(2);
        String state = x.number(2) + " " + moduliOf(x) + numbersOf(x) + accountsOf(x) + x.count(1) + x.count(2) + x.count(6);
        due("load", load(x, "moduli 5 9; checks 1; strict 0; set a 1; set a"), -1);
        dueLength("the buffer", x, 0);
        due("the error", x.errorCode(), REPEATED);
        due("play", play(x, "a = 1; b = 2; strict 0; c"), -1);
        dueLength("the buffer", x, 0);
        due("the error", x.errorCode(), SYNTAX);
        due("the state", x.number(2) + " " + moduliOf(x) + numbersOf(x) + accountsOf(x) + x.count(1) + x.count(2) + x.count(6), state);
        due("the output", outputOf(x), "c=(4,4,4)=4");
        due("undo()", x.undo(), 1);
        due("the number", x.number(2), 3);
        due("restoreState()", x.restoreState(), 3);
        due("the number that was saved", x.number(2), 3);
        due("the account that was saved", x.account(5), 1);
    }

    private static void loadReplacesEverything() {
        RestMill x = made("moduli 7 11 13; checks 1; strict 1; set a 5; set b - 7;");
        x.set(2, 3);
        x.set(2, 39);
        x.printRegister(1);
        due("load", load(x, "moduli 5 9; set h 4;"), 2);
        due("the output", outputOf(x), "b=(0,4,6)=-7");
        due("the moduli", moduliOf(x), "5 9 ");
        due("CHECKS", x.count(1), 0);
        due("STRICT", x.count(2), 0);
        due("the numbers", numbersOf(x), "0 0 0 0 0 0 0 4 ");
        due("the accounts", accountsOf(x), "0 0 0 0 0 0 0 0 ");
    }

    private static void loadLeavesNothingToUndo() {
        RestMill x = made(ONE_CHECK);
        for (int k = 1; k <= 9; k++) {
            x.set(2, k);
        }
        x.saveState();
        due("load", load(x, ONE_CHECK), 3);
        due("changes", x.count(6), 0);
        dueThrow("undo()", ELEMENT, () -> x.undo());
        dueThrow("restoreState()", ELEMENT, () -> x.restoreState());
        x.set(0, 1);
        due("undo() of a new one", x.undo(), 0);
        dueThrow("undo() of an older one", ELEMENT, () -> x.undo());
    }

    // Promises 2 to 7

    private static void mostSignificantFirst() {
        RestMill x = new RestMill();
        due("appendInput()", x.appendInput(0x6d6f6475, 0x6c692035, 0x20373b73, 0x65742068, 0x2031323b), 20);
        due("loadMill()", x.loadMill(), 2);
        due("moduli", moduliOf(x), "5 7 ");
        due("number(7)", x.number(7), 12);
        RestMill y = new RestMill();
        y.appendInput(0x613d313b, 0x623d323b, 0x633d333b, 0x643d343b, 0x653d353b);
        due("playScript()", y.playScript(), 5);
        due("numbers", numbersOf(y), "1 2 3 4 5 0 0 0 ");
        RestMill z = new RestMill();
        z.appendInput(0x6d6f6475, 0x6c692032, 0x20353bff, 0x80808080, 0xffffffff);
        due("bytes above 127", z.loadMill(), -1);
        due("the first of them", z.errorOffset(), 11);
    }

    private static void newLength() {
        RestMill x = new RestMill();
        for (int length = 20; length <= 500; length += 20) {
            due("appendInput()", x.appendInput(-1, 0, LEAST, GREATEST, 1), length);
        }
        RestMill y = filledTo(7);
        due("appendInput() at 7", y.appendInput(0, 0, 0, 0, 0), 27);
    }

    private static void noMoreThan500() {
        due("appendInput() at 480", filledTo(480).appendInput(0, 0, 0, 0, 0), 500);
        for (int length : new int[] {481, 490, 499, 500}) {
            RestMill x = filledTo(length);
            due("appendInput() at " + length, x.appendInput(0, 0, 0, 0, 0), -1);
            dueLength("the length then", x, length);
        }
        RestMill y = new RestMill();
        feed(y, " ".repeat(475) + "a = 1;");
        due("appendInput() at 481", y.appendInput(0x623d323b, 0x20202020, 0x20202020, 0x20202020, 0x20202020), -1);
        due("playScript() then", y.playScript(), 1);
        due("number(0)", y.number(0), 1);
        due("number(1)", y.number(1), 0);
    }

    private static void truncatedWithin() {
        RestMill x = filledTo(20);
        due("truncateInput(-1)", x.truncateInput(-1), false);
        due("truncateInput() of the least int", x.truncateInput(LEAST), false);
        due("truncateInput(21)", x.truncateInput(21), false);
        due("truncateInput() of the greatest int", x.truncateInput(GREATEST), false);
        dueLength("no change", x, 20);
        due("truncateInput(20)", x.truncateInput(20), true);
        due("truncateInput(19)", x.truncateInput(19), true);
        due("truncateInput(20) then", x.truncateInput(20), false);
        dueLength("the length", x, 19);
        due("truncateInput(0)", x.truncateInput(0), true);
        due("truncateInput(0) again", x.truncateInput(0), true);
        due("truncateInput(1) of none", x.truncateInput(1), false);
        due("truncateInput(-1) of none", x.truncateInput(-1), false);
    }

    private static void truncatedBytesAreGone() {
        RestMill x = new RestMill();
        feed(x, "a = 1; b = 2;       ");
        due("truncateInput(6)", x.truncateInput(6), true);
        due("playScript()", x.playScript(), 1);
        due("number(1)", x.number(1), 0);
        String[] texts = {"a = 39", "swap ab", "a = 1;;", "a = 1;&"};
        for (String text : texts) {
            RestMill y = new RestMill();
            feed(y, text);
            due("truncateInput() of '" + text + "'", y.truncateInput(text.length() - 1), true);
            boolean isWhole = text.charAt(text.length() - 2) == ';';
            due("playScript() of it", y.playScript(), isWhole ? 1 : -1);
            due("its error", y.errorCode(), isWhole ? RestMill.NO_ERROR : SYNTAX);
            due("its offset", y.errorOffset(), isWhole ? -1 : text.length() - 1);
        }
        RestMill z = new RestMill();
        feed(z, "moduli 7 11; set a 1;");
        z.truncateInput(12);
        due("loadMill() of the first part", z.loadMill(), 2);
        due("number(0)", z.number(0), 0);
    }

    private static void appendedBehindWhatIsLeft() {
        RestMill x = new RestMill();
        feed(x, "a = 1; b = 2;       ");
        x.truncateInput(3);
        due("appendInput()", x.appendInput(0x20333b20, 0x20202020, 0x20202020, 0x20202020, 0x20202020), 23);
        due("playScript()", x.playScript(), 1);
        due("number(0)", x.number(0), 3);
    }

    private static void loadedModuli() {
        RestMill x = new RestMill();
        due("two", load(x, "moduli 7 11;"), 2);
        due("six", load(x, "moduli 2 3 5 7 11 13;"), 6);
        due("an error", load(x, "moduli 7;"), -1);
        due("an empty buffer", x.loadMill(), -1);
        due("its error", x.errorCode(), SYNTAX);
        due("its offset", x.errorOffset(), 0);
    }

    private static void emptiedByLoad() {
        RestMill x = new RestMill();
        load(x, "moduli 7 11;");
        dueLength("the buffer after a load", x, 0);
        load(x, "moduli 7 11; &");
        dueLength("the buffer after an error", x, 0);
        due("appendInput() then", x.appendInput(0, 0, 0, 0, 0), 20);
    }

    private static void emptiedByPlay() {
        RestMill x = new RestMill();
        play(x, "a = 1;");
        dueLength("the buffer after a script", x, 0);
        play(x, "a = 1; &");
        dueLength("the buffer after an error", x, 0);
        play(x, "mend a; a = 1;");
        dueLength("the buffer after a refusal", x, 0);
        due("playScript() of none", x.playScript(), 0);
    }

    private static void untilOneIsRefused() {
        RestMill x = made(ONE_CHECK);
        due("the first refused", play(x, "mend a; a = 1;"), 0);
        due("the last refused", play(x, "a = 1; b = 2; mend a;"), 2);
        due("one in between", play(x, "c = 3; c = c / 0; c = 4;"), 1);
        due("the numbers", numbersOf(x), "1 2 3 0 0 0 0 0 ");
        due("the accounts", accountsOf(x), "3 1 0 2 0 0 0 3 ");
        RestMill y = made(ONE_CHECK);
        due("refused by what the script set", play(y, "a = 38; strict 1; a = a + 1;"), 2);
        due("the number stays", y.number(0), 38);
        due("not refused when STRICT is 0 again", play(y, "strict 0; a = a + 1; strict 1; scale a 0;"), 4);
        due("the number then", y.number(0), 5);
    }

    private static void firstOperationThatIsRefused() {
        RestMill x = made("moduli 7 11 13; checks 1; strict 1;");
        due("1 behind 2", play(x, "a = 38 + 1 + 1 / 0;"), 0);
        due("2 is told", accountsOf(x), "0 0 1 0 0 0 0 0 ");
        due("2 behind 1", play(x, "a = 1 / 0 + 38 + 1;"), 0);
        due("1 is told", accountsOf(x), "0 1 1 0 0 0 0 0 ");
        due("a product ahead of its sum", play(x, "a = 38 + 1 * 38 * 38;"), 0);
        due("2 is told", accountsOf(x), "0 1 2 0 0 0 0 0 ");
        due("1 in a product ahead of 2 in the sum", play(x, "a = 38 + 1 % 0;"), 0);
        due("1 is told", accountsOf(x), "0 2 2 0 0 0 0 0 ");
        due("2 in parentheses ahead of 1 outside", play(x, "a = (38 + 1) / 0;"), 0);
        due("2 is told", accountsOf(x), "0 2 3 0 0 0 0 0 ");
        due("unsound in between, sound at last", play(x, "a = 38 + 1 - 1;"), 0);
        due("2 is told", accountsOf(x), "0 2 4 0 0 0 0 0 ");
        due("sound all the way", play(x, "a = 38 - 1 + 1;"), 1);
        due("all of them", accountsOf(x), "1 2 4 0 0 0 0 1 ");
    }

    private static void aloneIsNoOperation() {
        RestMill x = made("moduli 7 11 13; checks 1; strict 1;");
        x.hurt(0, 0, 1);
        due("a register alone", play(x, "b = a; c = (a); d = ((b));"), 3);
        due("its NUMBER", x.number(3), x.number(0));
        due("a number alone", play(x, "e = 38; f = (38);"), 2);
        due("a '-' is one", play(x, "b = -a;"), 0);
        due("a sum is one", play(x, "b = a + 0;"), 0);
        due("of which 2 is told", x.account(2), 2);
        due("a '-' of a number", play(x, "b = -38;"), 1);
    }

    private static void scaleAndMendAsMethods() {
        RestMill x = made("moduli 2 7 11; checks 2; strict 1;");
        x.hurt(0, 1, 2);
        x.hurt(0, 2, 1);
        dueRefused("scale() to -27", 2, x, () -> x.scale(0, 0));
        due("scale to -27", play(x, "scale a 0;"), 0);
        due("its account", x.account(2), 2);
        RestMill y = made(ONE_CHECK);
        due("mend of a sound one", play(y, "mend a;"), 0);
        due("its account", y.account(3), 1);
        y.hurt(1, 0, 1);
        long hurt = y.number(1);
        due("mend of an unsound one", play(y, "mend b;"), 1);
        due("is mended", y.isSound(1) && y.number(1) != hurt, true);
        due("its act", y.account(0), 1);
    }

    private static void playedStatements() {
        duePlayed("", 0);
        duePlayed("a = 1;", 1);
        duePlayed(TWENTY, 20);
        dueScriptError("a = 1", SYNTAX, 5);
        RestMill x = new RestMill();
        due("an error", play(x, "a = 1; b"), -1);
        due("does nothing", x.number(0), 0);
        due("and is no change", x.count(6), 0);
    }

    private static void codeOfTheLatest() {
        RestMill x = new RestMill();
        due("no call", x.errorCode(), RestMill.NO_ERROR);
        load(x, "moduli 7 7;");
        due("COMMON", x.errorCode(), COMMON);
        x.set(0, 1);
        x.undo();
        x.appendInput(0, 0, 0, 0, 0);
        due("it stays", x.errorCode(), COMMON);
        play(x, TWENTY + "a");
        due("TOO_MANY", x.errorCode(), TOO_MANY);
        load(x, "moduli 7 11;");
        due("none by a load", x.errorCode(), RestMill.NO_ERROR);
        load(x, "moduli 7 11; set a 1; set a");
        due("REPEATED", x.errorCode(), REPEATED);
        play(x, "mend a;");
        due("none by a script that is refused", x.errorCode(), RestMill.NO_ERROR);
        play(x, "a = 99;");
        due("OUT_OF_RANGE", x.errorCode(), OUT_OF_RANGE);
        load(x, "");
        due("SYNTAX", x.errorCode(), SYNTAX);
        play(x, "");
        due("none by an empty script", x.errorCode(), RestMill.NO_ERROR);
    }

    private static void offsetOfTheLatest() {
        RestMill x = new RestMill();
        due("no call", x.errorOffset(), -1);
        load(x, "&");
        due("0", x.errorOffset(), 0);
        play(x, "a = 1; &");
        due("7", x.errorOffset(), 7);
        play(x, "a = 1;");
        due("none by a script", x.errorOffset(), -1);
        load(x, "moduli 7 11");
        due("11", x.errorOffset(), 11);
        load(x, "moduli 7 11;");
        due("none by a load", x.errorOffset(), -1);
    }

    private static void testForms() {
        sentence("section 4", "The input buffer holds at most 500 bytes", TextEdgesTest::bufferOf500);
        sentence("section 4", "R a register: a word of one letter from a to h", TextEdgesTest::registerWords);
        sentence("section 4", "setup = \"moduli\" N N {N} \";\"", TextEdgesTest::setupForm);
        sentence("section 4", "Braces mean any number of times, also none", TextEdgesTest::anyNumberOfSets);
        sentence("section 4", "what is in brackets may be left out", TextEdgesTest::bracketsLeftOut);
        sentence("section 4", "The number of \"checks\" is CHECKS (0 without it), that of \"strict\" STRICT", TextEdgesTest::checksAndStrictLeftOut);
        sentence("section 4", "\"set\" gives a register a NUMBER", TextEdgesTest::setGivesNumber);
        sentence("section 4", "script    = { statement \";\" }", TextEdgesTest::scriptForm);
        sentence("section 4", "statement = R \"=\" sum | \"scale\" R N | \"swap\" R R | \"mend\" R | \"strict\" N", TextEdgesTest::statementForm);
        sentence("section 4", "\"scale\" R N | \"swap\" R R | \"mend\" R | \"strict\" N", TextEdgesTest::statementsDo);
        sentence("section 4", "product   = factor { ( \"*\" | \"/\" | \"%\" ) factor }", TextEdgesTest::productForm);
        sentence("section 4", "factor    = N | R | \"-\" factor | \"(\" sum \")\"", TextEdgesTest::factorForm);
        sentence("section 4", "sum       = product { ( \"+\" | \"-\" ) product }", TextEdgesTest::sumForm);
        sentence("section 4", "In \"scale\" N is the number of a modulus; in a factor it is a NUMBER", TextEdgesTest::numberOfModulusOrNumber);
        sentence("section 4", "\"/\" is the quotient, \"%\" the remainder", TextEdgesTest::quotientAndRemainder);
        sentence("section 4", "\"-\" ahead of a factor the difference of 0 and it", TextEdgesTest::minusAheadOfFactor);
        sentence("section 4", "A sum or a product is worked out from the left", TextEdgesTest::workedOutFromTheLeft);
        sentence("section 4", "Tokens are words (maximal runs of the letters a to z)", TextEdgesTest::maximalWords);
        sentence("section 4", "words (maximal runs of the letters a to z)", TextEdgesTest::wordsOfEachLetter);
        sentence("section 4", "numbers (maximal runs of digits, 1 to 9 of them, leading zeros counted)", TextEdgesTest::numbersOfNineDigits);
        sentence("section 4", "and the single bytes ; = + - * / % ( and )", TextEdgesTest::everyByteBetweenNumbers);
        sentence("section 4", "Spaces (32) and line feeds (10) may stand between tokens", TextEdgesTest::gapsBetweenTokens);
    }

    private static void testErrors() {
        sentence("section 4", "the first error met is reported, with an offset in bytes from 0", TextEdgesTest::firstErrorMet);
        sentence("section 4", "if several errors apply to one token, the one with the smallest code", TextEdgesTest::smallestCodeOfOneToken);
        sentence("section 4", "SYNTAX: a token that cannot stand at its place", TextEdgesTest::everyByteBehindRegister);
        sentence("section 4", "a number that is too long", TextEdgesTest::numbersTooLong);
        sentence("section 4", "a byte that belongs to no token", TextEdgesTest::everyByteAsFactor);
        sentence("section 4", "The offset is that of the first byte of the token", TextEdgesTest::syntaxAtTheToken);
        sentence("section 4", "or the length of the text", TextEdgesTest::syntaxAtTheEnd);
        sentence("section 4", "the end of the text where more is required", TextEdgesTest::moreIsRequired);
        sentence("section 4", "OUT_OF_RANGE: a number that is out of its range (a modulus;", TextEdgesTest::outOfRangeModulus);
        sentence("section 4", "CHECKS; 0 or 1 for STRICT", TextEdgesTest::outOfRangeChecks);
        sentence("section 4", "0 or 1 for STRICT", TextEdgesTest::outOfRangeStrict);
        sentence("section 4", "the number of a modulus; one behind", TextEdgesTest::outOfRangeModulusNumber);
        sentence("section 4", "one behind \"set\" or in a factor that is above HALF", TextEdgesTest::outOfRangeNumber);
        sentence("section 4", "a modulus with which WHOLE would be too great", TextEdgesTest::wholeTooGreat);
        sentence("section 4", "REPEATED: a register that was set", TextEdgesTest::registerSetAgain);
        sentence("section 4", "COMMON: a modulus that has a common divisor above 1 with one ahead of it", TextEdgesTest::commonWithOneAhead);
        sentence("section 4", "TOO_MANY: a 7th modulus", TextEdgesTest::seventhModulus);
        sentence("section 4", "the first token of a 21st statement", TextEdgesTest::statement21);
        sentence("section 4", "a \"(\" or a \"-\" of a factor inside six others of these that are open", TextEdgesTest::insideSixOthers);
        sentence("section 4", "(a \"(\" until its \")\", a \"-\" until its factor has been read)", TextEdgesTest::openUntilItsEnd);
        sentence("section 4", "An error changes nothing but the input buffer and the reported error", TextEdgesTest::errorChangesNothing);
        sentence("section 4", "A successful load replaces everything but the output; all registers that are not set and all accounts are 0",
                TextEdgesTest::loadReplacesEverything);
        sentence("section 4", "nothing can be undone, and no state is saved", TextEdgesTest::loadLeavesNothingToUndo);
    }

    private static void testPromises() {
        sentence("promise 2", "the four bytes of each parameter, the most significant byte first", TextEdgesTest::mostSignificantFirst);
        sentence("promise 2", "Returns the new length of the input buffer", TextEdgesTest::newLength);
        sentence("promise 2", "-1, with no change, if it would exceed 500", TextEdgesTest::noMoreThan500);
        sentence("promise 3", "false, with no change, if length is negative or greater than the current length", TextEdgesTest::truncatedWithin);
        sentence("promise 3", "Truncates the input buffer", TextEdgesTest::truncatedBytesAreGone);
        sentence("promise 2", "Appends 20 bytes to the input buffer", TextEdgesTest::appendedBehindWhatIsLeft);
        sentence("promise 4", "Returns the number of moduli; -1 if there is an error", TextEdgesTest::loadedModuli);
        sentence("promise 4", "empties the buffer, whether the load succeeds or not", TextEdgesTest::emptiedByLoad);
        sentence("promise 5", "Plays a script from the input buffer and empties the buffer", TextEdgesTest::emptiedByPlay);
        sentence("promise 5", "its statements are done one behind the other until one is refused", TextEdgesTest::untilOneIsRefused);
        sentence("promise 5", "for 1 or 2 at any operation of its expression, in the order in which they are worked out",
                TextEdgesTest::firstOperationThatIsRefused);
        sentence("promise 5", "a number or a register alone is no operation", TextEdgesTest::aloneIsNoOperation);
        sentence("promise 5", "scale, mend as scale() and mend()", TextEdgesTest::scaleAndMendAsMethods);
        sentence("promise 5", "Returns the number of statements that were done; -1 if there is an error", TextEdgesTest::playedStatements);
        sentence("promise 6", "NO_ERROR if the text of that call had none or there was no call", TextEdgesTest::codeOfTheLatest);
        sentence("promise 7", "-1 if errorCode() is NO_ERROR", TextEdgesTest::offsetOfTheLatest);
    }

    public static void main(String[] args) {
        begin(args);
        testForms();
        testErrors();
        testPromises();
        end();
    }
}
