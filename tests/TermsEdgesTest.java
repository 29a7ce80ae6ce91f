/** The sentences of the document's sections 1, 2, 3 and 5 that name a boundary case, each with a test of its own. */
public final class TermsEdgesTest extends Sentences {
    private static final String SEVEN_11_13 = "moduli 7 11 13;";
    private static final String ONE_CHECK = "moduli 7 11 13; checks 1;";

    // The greatest WHOLE that moduli can have at all, and the least one that is too great.
    private static final String GREATEST_WHOLE = "moduli 41 49 61 85 96;";
    private static final String TOO_GREAT_WHOLE = "moduli 7 19 25 47 79 81;";

    /** Registers of these NUMBERs, a first, by moduli of which none is a check. */
    private static RestMill with(String moduli, int... numbers) {
        RestMill x = made("moduli " + moduli + ";");
        for (int register = 0; register < numbers.length; register++) {
            due("set(" + register + ", " + numbers[register] + ")", x.set(register, numbers[register]), 0);
        }
        return x;
    }

    private static void put(RestMill x, int register, int... rests) {
        for (int k = 0; k < rests.length; k++) {
            x.hurt(register, k, rests[k]);
        }
    }

    private static void dueOperation(RestMill x, int operation, int first, int second, long number) {
        String what = first + " " + "+-*/%".charAt(operation) + " " + second;
        due("set of the first of " + what, x.set(0, first), 0);
        due("set of the second of " + what, x.set(1, second), 0);
        due("operate of " + what, x.operate(operation, 2, 0, 1), 0);
        due(what, x.number(2), number);
    }

    // Section 1

    private static void callsOfOneObject() {
        RestMill x = new RestMill();
        for (int call = 1; call <= 510; call++) {
            x.set(0, call % 39);
        }
        due("the 511th call", x.set(0, 39), 5);
        due("the 512th call", x.account(0), 510);
    }

    private static void fromTwoModuliOn() {
        dueSetupError("moduli;", RestMill.SYNTAX, 6);
        dueSetupError("moduli 7;", RestMill.SYNTAX, 8);
        dueLoaded("moduli 7 11;", 2);
        due("drop() of three", made(SEVEN_11_13).drop(0), 0);
        due("drop() of two", made("moduli 7 11;").drop(0), 4);
    }

    private static void toSixModuli() {
        dueLoaded("moduli 2 3 5 7 11 13;", 6);
        dueSetupError("moduli 2 3 5 7 11 13 17;", RestMill.TOO_MANY, 21);
        due("grow() of five", made("moduli 2 3 5 7 11;").grow(13), 0);
        due("grow() of six", made("moduli 2 3 5 7 11 13;").grow(17), 4);
    }

    private static void modulusFromTwoTo97() {
        dueSetupError("moduli 1 7;", RestMill.OUT_OF_RANGE, 7);
        dueSetupError("moduli 0 7;", RestMill.OUT_OF_RANGE, 7);
        dueLoaded("moduli 2 97;", 2);
        dueSetupError("moduli 98 7;", RestMill.OUT_OF_RANGE, 7);
        dueSetupError("moduli 2 98;", RestMill.OUT_OF_RANGE, 9);
        RestMill x = made("moduli 7 11;");
        dueThrow("grow(1)", ARGUMENT, () -> x.grow(1));
        due("grow(2)", x.grow(2), 0);
        due("grow(97)", x.grow(97), 0);
        dueThrow("grow(98)", ARGUMENT, () -> x.grow(98));
    }

    private static void moduliNumberedFromZero() {
        RestMill x = new RestMill();
        dueThrow("modulus(-1)", INDEX, () -> x.modulus(-1));
        due("modulus(0)", x.modulus(0), 7);
        due("modulus(2)", x.modulus(2), 13);
        dueThrow("modulus(3)", INDEX, () -> x.modulus(3));
        RestMill two = made("moduli 7 11;");
        due("modulus(1) of two", two.modulus(1), 11);
        dueThrow("modulus(2) of two", INDEX, () -> two.modulus(2));
        RestMill six = made("moduli 2 3 5 7 11 13;");
        due("modulus(5) of six", six.modulus(5), 13);
        dueThrow("modulus(6) of six", INDEX, () -> six.modulus(6));
    }

    private static void noCommonDivisor() {
        dueLoaded("moduli 8 9;", 2);
        dueLoaded("moduli 96 97;", 2);
        dueSetupError("moduli 8 10;", RestMill.COMMON, 9);
        dueSetupError("moduli 9 9;", RestMill.COMMON, 9);
        dueSetupError("moduli 97 97;", RestMill.COMMON, 10);
        dueSetupError("moduli 6 35 11 49;", RestMill.COMMON, 15);
        dueSetupError("moduli 6 35 11 3;", RestMill.COMMON, 15);
        due("grow(11) beside 6 and 35", made("moduli 6 35;").grow(11), 0);
        due("grow(3) beside 6 and 35", made("moduli 6 35;").grow(3), 4);
        due("grow(77) beside 6 and 35", made("moduli 6 35;").grow(77), 4);
        due("grow(35) beside 6 and 35", made("moduli 6 35;").grow(35), 4);
    }

    private static void checksFromZeroToTwo() {
        String[] moduli = {"moduli 7 11 13;", "moduli 7 11 13 5;"};
        for (String row : moduli) {
            for (int checks = 0; checks <= 2; checks++) {
                RestMill x = made(row + " checks " + checks + ";");
                due(row + " CHECKS", x.count(1), checks);
            }
            dueSetupError(row + " checks 3;", RestMill.OUT_OF_RANGE, row.length() + 8);
        }
    }

    private static void oneModulusIsLeft() {
        due("one check of two", made("moduli 7 11; checks 1;").bound(0), 7);
        dueSetupError("moduli 7 11; checks 2;", RestMill.OUT_OF_RANGE, 20);
        due("two checks of three", made("moduli 7 11 13; checks 2;").bound(0), 7);
        RestMill x = made("moduli 7 11 13; checks 2;");
        due("drop() of the base that is left", x.drop(0), 4);
        due("drop() of a check", x.drop(1), 0);
    }

    private static void theLastAreChecks() {
        due("without checks", printedModuli(made("moduli 7 11 13 5;")), "7 11 13 5");
        due("with one", printedModuli(made("moduli 7 11 13 5; checks 1;")), "7 11 13 5?");
        due("with two", printedModuli(made("moduli 7 11 13 5; checks 2;")), "7 11 13? 5?");
        due("the others are bases", made("moduli 7 11 13 5; checks 2;").bound(0), 77);
    }

    private static void wholeAtMost() {
        due("the greatest WHOLE", made(GREATEST_WHOLE).bound(1), 999999840);
        due("the greatest WHOLE of six", made("moduli 3 32 41 49 61 85;").bound(1), 999999840);
        dueSetupError(TOO_GREAT_WHOLE, RestMill.OUT_OF_RANGE, 21);
        dueSetupError("moduli 41 51 67 83 86;", RestMill.OUT_OF_RANGE, 19);
        due("grow() to the greatest", made("moduli 41 49 61 85;").grow(96), 0);
        due("grow() to one too great", made("moduli 7 19 25 47 79;").grow(81), 4);
        due("grow() to one too great of five", made("moduli 41 51 67 83;").grow(86), 4);
    }

    private static void rangeAndHalf() {
        RestMill least = made("moduli 2 3 5; checks 2;");
        due("the least RANGE", least.bound(0), 2);
        due("its HALF", least.bound(2), 0);
        due("HALF of RANGE 3", made("moduli 3 2 5; checks 2;").bound(2), 1);
        due("HALF of RANGE 28", made("moduli 7 4;").bound(2), 13);
        due("HALF of RANGE 63", made("moduli 7 9;").bound(2), 31);
        RestMill greatest = made(GREATEST_WHOLE);
        due("the greatest RANGE", greatest.bound(0), 999999840);
        due("its HALF", greatest.bound(2), 499999919);
    }

    private static void eightRegisters() {
        RestMill x = new RestMill();
        dueThrow("number(-1)", INDEX, () -> x.number(-1));
        dueThrow("number(8)", INDEX, () -> x.number(8));
        due("play", play(x, "a = 1; b = 2; c = 3; d = 4; e = 5; f = 6; g = 7; h = 8;"), 8);
        due("the numbers", numbersOf(x), "1 2 3 4 5 6 7 8 ");
        due("load", load(x, "moduli 7 11; set a 8; set b 7; set c 6; set d 5; set e 4; set f 3; set g 2; set h 1;"), 2);
        due("the numbers then", numbersOf(x), "8 7 6 5 4 3 2 1 ");
        due("the first", printedRegister(x, 0), "a=(1,8)=8");
        due("the last", printedRegister(x, 7), "h=(1,1)=1");
        dueScriptError("i = 1;", RestMill.SYNTAX, 0);
    }

    private static void restsFromZero() {
        RestMill x = new RestMill();
        for (int register = 0; register < REGISTERS; register++) {
            due("the rests of " + register + " at first", restsOf(x, register), "0 0 0 ");
        }
        int[] moduli = {7, 11, 13};
        for (int k = 0; k < 3; k++) {
            int modulus = k;
            int last = moduli[k] - 1;
            due("the rest before", x.hurt(0, modulus, last), 0);
            due("the greatest rest", x.rest(0, modulus), last);
            dueThrow("a rest of the modulus", ARGUMENT, () -> x.hurt(0, modulus, last + 1));
            due("the rest before 0", x.hurt(0, modulus, 0), last);
            dueThrow("a rest below 0", ARGUMENT, () -> x.hurt(0, modulus, -1));
            due("the rest then", x.rest(0, modulus), 0);
        }
    }

    private static void valueOfRests() {
        RestMill x = new RestMill();
        due("VALUE of rests 0", x.value(0), 0);
        put(x, 0, 1, 1, 1);
        due("VALUE of rests 1", x.value(0), 1);
        put(x, 0, 6, 10, 12);
        due("VALUE of the greatest rests", x.value(0), 1000);
        put(x, 0, 5, 9, 11);
        due("VALUE of one less", x.value(0), 999);
        RestMill y = made(GREATEST_WHOLE);
        put(y, 0, 40, 48, 60, 84, 95);
        due("the greatest VALUE", y.value(0), 999999839);
    }

    private static void numberOfValue() {
        RestMill odd = made("moduli 3 5;");
        put(odd, 0, 1, 2);
        due("VALUE at (WHOLE - 1) / 2", odd.value(0), 7);
        due("its NUMBER", odd.number(0), 7);
        put(odd, 0, 2, 3);
        due("VALUE just above", odd.value(0), 8);
        due("its NUMBER", odd.number(0), -7);
        RestMill even = made("moduli 4 3;");
        put(even, 0, 1, 2);
        due("VALUE at (WHOLE - 1) / 2, rounded down", even.value(0), 5);
        due("its NUMBER", even.number(0), 5);
        put(even, 0, 2, 0);
        due("VALUE of WHOLE / 2", even.value(0), 6);
        due("its NUMBER", even.number(0), -6);
        put(even, 0, 3, 1);
        due("NUMBER of 7", even.number(0), -5);
        put(even, 0, 3, 2);
        due("NUMBER of WHOLE less 1", even.number(0), -1);
        put(even, 0, 0, 0);
        due("NUMBER of 0", even.number(0), 0);
    }

    private static void soundWithinHalf() {
        RestMill x = made(ONE_CHECK);
        int[] number = {-39, -38, 38, 39};
        int[][] rests = {{3, 5, 0}, {4, 6, 1}, {3, 5, 12}, {4, 6, 0}};
        for (int k = 0; k < 4; k++) {
            put(x, 0, rests[k]);
            due("NUMBER", x.number(0), number[k]);
            due("isSound() of " + number[k], x.isSound(0), k == 1 || k == 2);
        }
        RestMill even = made("moduli 4 3;");
        put(even, 0, 2, 0);
        due("isSound() of -WHOLE / 2 without checks", even.isSound(0), false);
        put(even, 0, 3, 1);
        due("isSound() of one above it", even.isSound(0), true);
        RestMill least = made("moduli 2 3 5; checks 2;");
        due("isSound() of 0 where HALF is 0", least.isSound(0), true);
        put(least, 0, 1, 1, 1);
        due("isSound() of 1 where HALF is 0", least.isSound(0), false);
    }

    private static void fitsWithinHalf() {
        RestMill x = made(ONE_CHECK);
        due("set(0, -39)", x.set(0, -39), 5);
        due("set(0, -38)", x.set(0, -38), 0);
        due("set(0, 38)", x.set(0, 38), 0);
        due("set(0, 39)", x.set(0, 39), 5);
        RestMill even = made("moduli 4 3;");
        due("set(0, -6)", even.set(0, -6), 5);
        due("set(0, -5)", even.set(0, -5), 0);
        due("set(0, 5)", even.set(0, 5), 0);
        due("set(0, 6)", even.set(0, 6), 5);
    }

    private static void restsBelowZero() {
        RestMill x = with("7 11 13", -1, -7, -8, -38, -500, 0, 500);
        String[] rests = {"6 10 12 ", "0 4 6 ", "6 3 5 ", "4 6 1 ", "4 6 7 ", "0 0 0 ", "3 5 6 "};
        for (int register = 0; register < rests.length; register++) {
            due("the rests of " + x.number(register), restsOf(x, register), rests[register]);
        }
    }

    // Section 2

    private static void digitsUpToModulus() {
        RestMill x = with("7 11 13", -1, 0, 6, 7, 76, 77);
        int[][] digits = {{6, 10, 12}, {0, 0, 0}, {6, 0, 0}, {0, 1, 0}, {6, 10, 0}, {0, 0, 1}};
        for (int register = 0; register < digits.length; register++) {
            for (int k = 0; k < 3; k++) {
                due("digit(" + register + ", " + k + ") of " + x.value(register), x.digit(register, k), digits[register][k]);
            }
        }
    }

    private static void partsBelowWhole() {
        RestMill x = with("7 11 13", 0, 1, -1);
        int[][] parts = {{0, 0, 0}, {715, 364, 924}, {286, 637, 77}};
        for (int register = 0; register < parts.length; register++) {
            for (int k = 0; k < 3; k++) {
                due("part(" + register + ", " + k + ") of " + x.number(register), x.part(register, k), parts[register][k]);
            }
        }
        put(x, 3, 6, 0, 0);
        due("the greatest part by 7", x.part(3, 0), 286);
        due("VALUE of that part alone", x.value(3), 286);
        RestMill two = made("moduli 2 3;");
        put(two, 0, 1, 2);
        due("a part by 2", two.part(0, 0), 3);
        due("a part by 3", two.part(0, 1), 2);
    }

    private static void digitsMakeValue() {
        RestMill x = with("7 11 13", -1, 0, 500, -500, 77, 76, 1, 6);
        for (int register = 0; register < REGISTERS; register++) {
            long value = x.digit(register, 0) + x.digit(register, 1) * 7L + x.digit(register, 2) * 77L;
            due("the digits of " + x.number(register) + " together", value, x.value(register));
        }
        RestMill great = made(GREATEST_WHOLE);
        put(great, 0, 40, 48, 60, 84, 95);
        long[] digits = {40, 48, 60, 84, 95};
        for (int k = 0; k < 5; k++) {
            due("digit(0, " + k + ") of WHOLE less 1", great.digit(0, k), digits[k]);
        }
    }

    private static void partsMakeValueAndRank() {
        RestMill x = with("7 11 13", -1, 0, 500, -500, 77, 76, 1, 25);
        for (int register = 0; register < REGISTERS; register++) {
            long sum = x.part(register, 0) + x.part(register, 1) + x.part(register, 2);
            due("the parts of " + x.number(register) + " together", sum, x.value(register) + x.rank(register) * 1001L);
        }
        RestMill great = made(GREATEST_WHOLE);
        put(great, 0, 40, 1, 60, 0, 95);
        long sum = 0;
        for (int k = 0; k < 5; k++) {
            sum += great.part(0, k);
        }
        due("the parts of a great one", sum, great.value(0) + great.rank(0) * 999999840L);
    }

    private static void rankFromZero() {
        RestMill x = with("7 11 13", 0, 1, -1, 25);
        int[] ranks = {0, 2, 0, 1};
        for (int register = 0; register < ranks.length; register++) {
            due("rank() of " + x.number(register), x.rank(register), ranks[register]);
        }
        RestMill two = with("2 3", 1, -1);
        due("rank() of 1 by two moduli", two.rank(0), 1);
        due("rank() of -1 by two moduli", two.rank(1), 0);
        RestMill six = made("moduli 7 9 11 13 17 19;");
        put(six, 0, 1, 2, 2, 8, 2, 6);
        due("the greatest rank of six moduli", six.rank(0), 5);
        due("its VALUE", six.value(0), 1358183);
    }

    // Section 3

    private static void modulusByModulus() {
        RestMill odd = made("moduli 3 5;");
        dueOperation(odd, 0, 7, 1, -7);
        dueOperation(odd, 1, -7, 1, 7);
        dueOperation(odd, 2, 7, 7, 4);
        dueOperation(odd, 2, -7, 7, -4);
        dueOperation(odd, 0, 7, -7, 0);
        RestMill even = made("moduli 4 3;");
        dueOperation(even, 0, 5, 1, -6);
        dueOperation(even, 1, -5, 1, -6);
        dueOperation(even, 1, -5, 2, 5);
        dueOperation(even, 2, 3, 4, 0);
        dueOperation(even, 2, 2, 3, -6);
        put(even, 3, 2, 0);
        due("-6 and -6", even.operate(0, 4, 3, 3), 0);
        due("their sum", even.number(4), 0);
        due("0 less -6", even.operate(1, 4, 4, 3), 0);
        due("is -6", even.number(4), -6);
    }

    private static void quotientRoundedDown() {
        RestMill x = made(SEVEN_11_13);
        int[][] quotients = {{-7, 2, -4}, {7, -2, -4}, {7, 2, 3}, {-7, -2, 3}, {6, 3, 2}, {-6, 3, -2}, {6, -3, -2},
            {-6, -3, 2}, {3, 5, 0}, {-3, 5, -1}, {3, -5, -1}, {-3, -5, 0}, {0, -5, 0}, {500, 1, 500}, {-500, -1, 500},
            {-1, 500, -1}, {500, 500, 1}, {-500, 500, -1}};
        for (int[] one : quotients) {
            dueOperation(x, 3, one[0], one[1], one[2]);
        }
    }

    private static void remainderOfQuotient() {
        RestMill x = made(SEVEN_11_13);
        int[][] remainders = {{-7, 2, 1}, {7, -2, -1}, {7, 2, 1}, {-7, -2, -1}, {6, 3, 0}, {-6, 3, 0}, {6, -3, 0},
            {3, 5, 3}, {-3, 5, 2}, {3, -5, -2}, {-3, -5, -3}, {0, 5, 0}, {500, 1, 0}, {-1, 500, 499}, {1, -500, -499}};
        for (int[] one : remainders) {
            dueOperation(x, 4, one[0], one[1], one[2]);
        }
    }

    private static void secondOneNotZero() {
        RestMill x = with("7 11 13", 5, 0, 1, -1);
        for (int operation = 3; operation <= 4; operation++) {
            int which = operation;
            dueRefused("operate(" + which + ") by 0", 1, x, () -> x.operate(which, 4, 0, 1));
            dueRefused("operate(" + which + ") of 0 by 0", 1, x, () -> x.operate(which, 4, 1, 1));
            due("operate(" + which + ") by 1", x.operate(which, 4, 0, 2), 0);
            due("operate(" + which + ") by -1", x.operate(which, 4, 0, 3), 0);
            due("operate(" + which + ") of 0 by 5", x.operate(which, 4, 1, 0), 0);
        }
        for (int operation = 0; operation <= 2; operation++) {
            due("operate(" + operation + ") with 0", x.operate(operation, 4, 0, 1), 0);
        }
    }

    private static void scaledRoundedDown() {
        int[][] scaled = {{0, 0}, {6, 0}, {7, 1}, {-1, -1}, {-7, -1}, {-8, -2}, {500, 71}, {-500, -72}};
        for (int[] one : scaled) {
            RestMill x = with("7 11 13", one[0]);
            due("scale(0, 0) of " + one[0], x.scale(0, 0), 0);
            due("NUMBER then", x.number(0), one[1]);
        }
        RestMill y = with("7 11 13", -13, -14);
        due("scale(0, 2) of -13", y.scale(0, 2), 0);
        due("scale(1, 2) of -14", y.scale(1, 2), 0);
        due("NUMBERs then", numbersOf(y), "-1 -2 0 0 0 0 0 0 ");
    }

    private static void strictIsZeroOrOne() {
        RestMill x = new RestMill();
        due("STRICT at first", x.count(2), 0);
        dueThrow("setStrict(-1)", ARGUMENT, () -> x.setStrict(-1));
        dueThrow("setStrict(2)", ARGUMENT, () -> x.setStrict(2));
        x.setStrict(1);
        due("STRICT then", x.count(2), 1);
        x.setStrict(0);
        due("STRICT at last", x.count(2), 0);
        due("STRICT of a setup without it", made(SEVEN_11_13).count(2), 0);
        due("STRICT of a setup with 1", made("moduli 7 11; strict 1;").count(2), 1);
        dueSetupError("moduli 7 11; strict 2;", RestMill.OUT_OF_RANGE, 20);
        dueScriptError("strict 2;", RestMill.OUT_OF_RANGE, 7);
    }

    private static void rowsAsRegisters() {
        RestMill x = made("moduli 7 11 13; checks 1; strict 1; set a 38; set b 1;");
        due("why() of a row of HALF + 1", x.why(0, 0, 1), 2);
        due("why() of a row of HALF", x.why(2, 0, 1), 0);
        x.setStrict(0);
        x.operate(2, 2, 0, 0);
        due("NUMBER of the row of 1444", x.number(2), 443);
        due("VALUE of the row of 1444", x.value(2), 443);
        x.operate(1, 3, 1, 0);
        due("NUMBER of the row of -37", x.number(3), -37);
        due("VALUE of the row of -37", x.value(3), 964);
        due("it is sound", x.isSound(3), true);
    }

    private static void divisorIsZero() {
        RestMill x = made("moduli 7 11 13; checks 1; set a 5; set b 1; set c - 1;");
        for (int operation = 3; operation <= 4; operation++) {
            int which = operation;
            dueRefused("operate(" + which + ") by 0", 1, x, () -> x.operate(which, 0, 0, 7));
            due("operate(" + which + ") by 1", x.operate(which, 3, 0, 1), 0);
            due("operate(" + which + ") by -1", x.operate(which, 3, 0, 2), 0);
        }
        due("a quotient in a script", play(x, "d = a / (b + c);"), 0);
        due("a remainder in a script", play(x, "d = a % (b + c);"), 0);
        due("their account", x.account(1), 4);
        due("a divisor that was 0 by VALUE alone", play(x, "d = a / (b + c + c);"), 1);
    }

    private static void refusedChangesNothing() {
        RestMill x = made("moduli 7 11 13; checks 1; strict 1; set a 38; set b 1;");
        x.hurt(7, 0, 1);
        x.printRegister(0);
        dueRefused("set()", 5, x, () -> x.set(0, 39));
        dueRefused("operate() by 0", 1, x, () -> x.operate(3, 0, 0, 2));
        dueRefused("operate() to 39", 2, x, () -> x.operate(0, 0, 0, 1));
        dueRefused("mend()", 3, x, () -> x.mend(0));
        dueRefused("grow()", 4, x, () -> x.grow(11));
        dueRefused("drop()", 4, x, () -> x.drop(2));
        due("the output", outputOf(x), "a=(3,5,12)=38");
        String numbers = numbersOf(x);
        for (String text : new String[] {"a = a + b;", "a = a / c;", "mend a;", "b = 1 - 1 + a + a;"}) {
            due("a statement that is refused", play(x, text), 0);
            due("the numbers", numbersOf(x), numbers);
        }
        due("all accounts", accountsOf(x), "0 2 3 2 2 1 0 0 ");
    }

    private static void refusedLeavesNothingPending() {
        RestMill x = made(ONE_CHECK);
        for (int k = 0; k < 40; k++) {
            due("a sum refused in its midst", play(x, "a = 1 - (2 * (3 - (4 + 5 * (6 - 7 / 0))));"), 0);
        }
        due("the same without the 0", play(x, "a = 1 - (2 * (3 - (4 + 5 * (6 - 7 / 7))));"), 1);
        due("its number", x.number(0), 53);
        due("the account", x.account(1), 40);
    }

    private static void refusedIfNotSound() {
        RestMill x = made(ONE_CHECK);
        x.set(0, 38);
        x.set(1, 1);
        x.set(2, -38);
        due("39 while STRICT is 0", x.operate(0, 3, 0, 1), 0);
        x.setStrict(1);
        dueRefused("39", 2, x, () -> x.operate(0, 4, 0, 1));
        dueRefused("-39", 2, x, () -> x.operate(1, 4, 2, 1));
        due("38", x.operate(2, 4, 0, 1), 0);
        due("-38", x.operate(2, 4, 2, 1), 0);
        due("39 less 1", x.operate(1, 4, 3, 1), 0);
        due("an unsound one scaled to a sound one", x.scale(3, 0), 0);
        RestMill y = made("moduli 2 7 11; checks 2; strict 1;");
        put(y, 0, 0, 2, 1);
        due("NUMBER", y.number(0), -54);
        dueRefused("scale() to -27", 2, y, () -> y.scale(0, 0));
    }

    private static void nothingToMend() {
        RestMill x = made(ONE_CHECK);
        dueRefused("mend() of a sound one", 3, x, () -> x.mend(0));
        RestMill y = made("moduli 5 7 97 89; checks 2;");
        put(y, 0, 3, 3, 50, 60);
        dueRefused("mend() that cannot be", 3, y, () -> y.mend(0));
    }

    private static void moduliCannotBe() {
        RestMill x = made("moduli 7 11;");
        dueRefused("grow(77)", 4, x, () -> x.grow(77));
        dueRefused("drop(0)", 4, x, () -> x.drop(0));
        dueRefused("drop(1)", 4, x, () -> x.drop(1));
        due("grow(10)", x.grow(10), 0);
        due("drop(2)", x.drop(2), 0);
    }

    private static void doesNotFit() {
        RestMill x = made(ONE_CHECK);
        dueRefused("set(0, 39)", 5, x, () -> x.set(0, 39));
        dueRefused("set(0, -39)", 5, x, () -> x.set(0, -39));
        x.setStrict(1);
        dueRefused("set(7, 1000) while STRICT is 1", 5, x, () -> x.set(7, 1000));
        due("set(0, 38)", x.set(0, 38), 0);
    }

    private static void faultsOfUnsoundOnes() {
        RestMill x = with("7 11 13", 7);
        due("faults of a sound one that other rests would leave sound", x.faults(0), 0);
        RestMill y = made(ONE_CHECK);
        int[][] rests = {{2, 3, 10}, {4, 6, 0}, {0, 0, 12}, {4, 6, 1}};
        int[] faults = {7, 4, 6, 0};
        for (int k = 0; k < rests.length; k++) {
            put(y, 0, rests[k]);
            due("faults of " + y.number(0), y.faults(0), faults[k]);
        }
        RestMill z = made("moduli 3 5 7 2;");
        put(z, 0, 0, 0, 0, 1);
        due("faults of -105", z.faults(0), 15);
        RestMill none = made("moduli 5 7 97 89; checks 2;");
        put(none, 0, 3, 3, 50, 60);
        due("faults of two wrong rests", none.faults(0), 0);
    }

    private static void mendedByTheFirstFault() {
        RestMill x = made(ONE_CHECK);
        put(x, 0, 2, 3, 10);
        due("mend(0)", x.mend(0), 0);
        due("the rest of the modulus 0", restsOf(x, 0), "1 3 10 ");
        put(x, 1, 0, 0, 12);
        due("mend(1)", x.mend(1), 0);
        due("the rest of the modulus 1", restsOf(x, 1), "0 8 12 ");
        put(x, 2, 4, 6, 0);
        due("mend(2)", x.mend(2), 0);
        due("the rest of the modulus 2", restsOf(x, 2), "4 6 1 ");
    }

    private static void mendedByTheLeastRest() {
        RestMill x = made("moduli 13 11 7; checks 1;");
        put(x, 0, 0, 0, 1);
        due("mend() where 9 and 10 would do", x.mend(0), 0);
        due("the rests", restsOf(x, 0), "9 0 1 ");
        RestMill y = made("moduli 4 3;");
        put(y, 0, 2, 0);
        due("mend() where 0 would do", y.mend(0), 0);
        due("the rests", restsOf(y, 0), "0 0 ");
        RestMill z = made(ONE_CHECK);
        put(z, 0, 3, 5, 0);
        due("mend() where the greatest alone would do", z.mend(0), 0);
        due("the rests", restsOf(z, 0), "3 5 12 ");
    }

    private static void actsThatWereDone() {
        RestMill x = made(ONE_CHECK);
        due("at first", x.account(0), 0);
        x.set(0, 1);
        due("one", x.account(0), 1);
        x.set(0, 39);
        x.mend(0);
        due("not one that was refused", x.account(0), 1);
        play(x, "a = 1; b = a; mend a;");
        due("two more", x.account(0), 3);
    }

    private static void actsOfMethods() {
        RestMill x = made(ONE_CHECK);
        x.hurt(7, 0, 1);
        x.mend(7);
        due("mend()", x.account(0), 1);
        x.set(0, 1);
        due("set()", x.account(0), 2);
        x.operate(0, 1, 0, 0);
        due("operate()", x.account(0), 3);
        x.scale(0, 0);
        due("scale()", x.account(0), 4);
        x.grow(2);
        due("grow()", x.account(0), 5);
        x.drop(3);
        due("drop()", x.account(0), 6);
        x.hurt(0, 0, 1);
        x.swap(0, 1);
        x.setStrict(1);
        x.setStrict(0);
        x.saveState();
        x.restoreState();
        due("what is no act", x.account(0), 6);
    }

    private static void actsOfScripts() {
        RestMill x = made(ONE_CHECK);
        play(x, "");
        due("an empty script", x.account(0), 0);
        play(x, "a = 1;");
        due("a sum", x.account(0), 1);
        play(x, "scale a 0;");
        due("scale", x.account(0), 2);
        play(x, "swap a b; strict 1; strict 0;");
        due("swap and strict", x.account(0), 2);
        x.hurt(0, 0, 1);
        play(x, "mend a;");
        due("mend", x.account(0), 3);
        play(x, "a = 1; b = 2; c = 1 + 2 * 3 - 4;");
        due("three sums", x.account(0), 6);
    }

    private static void refusedForEachReason() {
        RestMill x = made(ONE_CHECK);
        x.operate(3, 0, 0, 1);
        due("1", accountsOf(x), "0 1 0 0 0 0 0 0 ");
        play(x, "strict 1; a = 38 + 1;");
        due("2", accountsOf(x), "0 1 1 0 0 0 0 1 ");
        x.mend(0);
        due("3", accountsOf(x), "0 1 1 1 0 0 0 1 ");
        x.grow(7);
        due("4", accountsOf(x), "0 1 1 1 1 0 0 1 ");
        x.set(0, 39);
        due("5", accountsOf(x), "0 1 1 1 1 1 0 1 ");
        play(x, "mend a;");
        due("3 in a script", accountsOf(x), "0 1 1 2 1 1 0 1 ");
        play(x, "a = a / 0;");
        due("1 in a script", accountsOf(x), "0 2 1 2 1 1 0 1 ");
    }

    private static void doneAndNotSound() {
        RestMill x = made(ONE_CHECK);
        x.set(0, 38);
        x.set(1, 1);
        x.operate(1, 2, 0, 1);
        due("37", x.account(6), 0);
        x.operate(0, 2, 0, 1);
        due("39", x.account(6), 1);
        x.setStrict(1);
        x.operate(0, 2, 0, 1);
        due("39 that is refused", x.account(6), 1);
        RestMill y = made("moduli 2 7 11; checks 2;");
        put(y, 0, 0, 2, 1);
        due("hurt() is no act", y.account(6), 0);
        y.scale(0, 0);
        due("scale() to -27", y.account(6), 1);
        play(y, "scale a 0;");
        due("scale to -14 in a script", y.account(6), 2);
        y.scale(0, 2);
        due("scale() to -2", y.account(6), 3);
        put(y, 0, 0, 0, 1);
        y.mend(0);
        due("mend() is done", y.account(0), 4);
        due("mend(), to a sound one", y.account(6), 3);
    }

    private static void lastOfAnExpression() {
        RestMill x = made(ONE_CHECK);
        play(x, "a = 38 + 38 - 38;");
        due("sound at last", x.account(6), 0);
        play(x, "a = 38 + 38 + 38 + 38;");
        due("never sound", x.account(6), 1);
        play(x, "a = 38 - 38 + 38 + 38;");
        due("unsound at last", x.account(6), 2);
        play(x, "b = a;");
        due("an unsound register alone", x.account(6), 3);
        play(x, "b = 38;");
        due("a number alone", x.account(6), 3);
    }

    private static void growAndDropHaveNoResult() {
        RestMill x = made(ONE_CHECK);
        x.set(0, 38);
        x.set(1, 1);
        x.operate(0, 2, 0, 1);
        due("the account", x.account(6), 1);
        due("grow() with an unsound register", x.grow(2), 0);
        due("it is sound then", x.isSound(2), true);
        due("drop(2), by which it is not sound", x.drop(2), 0);
        due("it is not sound then", x.isSound(2), false);
        due("the account then", x.account(6), 1);
        RestMill y = made(ONE_CHECK);
        y.set(0, 38);
        due("drop(1), by which it is not sound", y.drop(1), 0);
        due("it is not", y.isSound(0), false);
        due("the account", y.account(6), 0);
    }

    private static void statementsThatWereDone() {
        RestMill x = made(ONE_CHECK);
        play(x, "a = 1; scale a 0; swap a b; strict 1; strict 0;");
        due("each of them", x.account(7), 5);
        play(x, "a = 1; mend a; a = 2;");
        due("not the refused one, nor those behind it", x.account(7), 6);
        play(x, "a = 1; mend");
        due("none of a text with an error", x.account(7), 6);
    }

    private static void undoneAccounts() {
        RestMill x = made(ONE_CHECK);
        x.set(0, 1);
        due("before", accountsOf(x), "1 0 0 0 0 0 0 0 ");
        play(x, "a = 38 + 38; b = 1; mend b;");
        due("after", accountsOf(x), "3 0 0 1 0 0 1 2 ");
        x.undo();
        due("undone", accountsOf(x), "1 0 0 0 0 0 0 0 ");
        x.undo();
        due("both", accountsOf(x), "0 0 0 0 0 0 0 0 ");
    }

    // Section 5

    private static void withoutAChange() {
        RestMill x = made(ONE_CHECK);
        x.set(0, 38);
        x.set(1, 1);
        x.hurt(2, 0, 1);
        dueNoChange("why()", x, () -> {
            for (int operation = 0; operation < 5; operation++) {
                x.why(operation, 0, 1);
                x.why(operation, 0, 3);
            }
        });
        dueNoChange("numberWith()", x, () -> x.numberWith(2, 0, 0));
        dueNoChange("faults()", x, () -> x.faults(2));
        dueNoChange("nextModulus()", x, () -> x.nextModulus());
        dueNoChange("spare()", x, () -> x.spare());
        dueNoChange("exact()", x, () -> x.exact(2, 0, 1));
        dueNoChange("extend()", x, () -> x.extend(2, 9999, true));
    }

    private static void dueChange(String what, RestMill x, Test call) {
        int changes = x.count(6);
        String state = stateOf(x);
        call.run();
        due(what + " is a change", x.count(6), changes + 1);
        due("undo() of " + what, x.undo(), changes);
        due("the state after undo() of " + what, stateOf(x), state);
    }

    private static void changesThatAreDone() {
        RestMill x = made(ONE_CHECK);
        x.set(0, 5);
        x.set(1, -5);
        dueChange("drop()", x, () -> x.drop(0));
        x.hurt(2, 0, 1);
        dueChange("set()", x, () -> x.set(0, 6));
        dueChange("hurt()", x, () -> x.hurt(0, 0, 1));
        dueChange("operate()", x, () -> x.operate(2, 3, 0, 1));
        dueChange("scale()", x, () -> x.scale(0, 0));
        dueChange("mend()", x, () -> x.mend(2));
        dueChange("swap()", x, () -> x.swap(0, 1));
        dueChange("grow()", x, () -> x.grow(2));
        dueChange("setStrict()", x, () -> x.setStrict(1));
        dueChange("a script", x, () -> play(x, "a = 1; b = 2; strict 1;"));
    }

    private static void changesOfNothing() {
        RestMill x = made(ONE_CHECK);
        x.set(0, 5);
        dueChange("set() to the same", x, () -> x.set(0, 5));
        dueChange("hurt() to the same", x, () -> x.hurt(0, 0, 5));
        dueChange("operate() to the same", x, () -> x.operate(0, 0, 0, 1));
        dueChange("scale() of 0", x, () -> x.scale(1, 0));
        dueChange("swap() with itself", x, () -> x.swap(0, 0));
        dueChange("swap() of alike ones", x, () -> x.swap(1, 2));
        dueChange("setStrict() to the same", x, () -> x.setStrict(0));
    }

    private static void scriptIsOneChange() {
        RestMill x = made(ONE_CHECK);
        dueChange("an empty script", x, () -> play(x, ""));
        dueChange("a script of which nothing is done", x, () -> play(x, "mend a;"));
        dueChange("a script of which a part is done", x, () -> play(x, "b = 1; mend a; b = 2;"));
        dueChange("a script of many statements", x, () -> play(x, "a=1;a=2;a=3;a=4;a=5;a=6;a=7;a=8;a=9;a=1;"));
        due("a script with an error", play(x, "a = 1; b"), -1);
        due("is none", x.count(6), 0);
    }

    private static void eightChanges() {
        RestMill x = made(ONE_CHECK);
        for (int k = 1; k <= 8; k++) {
            x.set(0, k);
            due("changes", x.count(6), k);
        }
        for (int k = 7; k >= 0; k--) {
            due("undo()", x.undo(), k);
            due("the number", x.number(0), k);
        }
        dueThrow("a ninth undo()", ELEMENT, () -> x.undo());
    }

    private static void oldestIsPutAway() {
        RestMill x = made(ONE_CHECK);
        for (int k = 1; k <= 9; k++) {
            x.set(0, k);
        }
        due("changes", x.count(6), 8);
        for (int k = 7; k >= 0; k--) {
            due("undo()", x.undo(), k);
            due("the number", x.number(0), k + 1);
        }
        dueThrow("undo() of the first", ELEMENT, () -> x.undo());
        due("the number at last", x.number(0), 1);
    }

    private static void undoneIsKeptNoMore() {
        RestMill x = made(ONE_CHECK);
        for (int k = 1; k <= 8; k++) {
            x.set(0, k);
        }
        x.undo();
        x.undo();
        due("one more", x.set(0, 20), 0);
        due("changes", x.count(6), 7);
        int[] numbers = {6, 5, 4, 3, 2, 1, 0};
        for (int k = 0; k < 7; k++) {
            due("undo()", x.undo(), 6 - k);
            due("the number", x.number(0), numbers[k]);
        }
        dueThrow("undo() of what was put away by none", ELEMENT, () -> x.undo());
    }

    private static void refusedIsNoChange() {
        RestMill x = made(ONE_CHECK);
        for (int k = 1; k <= 8; k++) {
            x.set(0, k);
        }
        x.setStrict(1);
        x.set(0, 39);
        x.operate(3, 0, 0, 1);
        x.operate(2, 0, 0, 0);
        x.mend(0);
        x.grow(7);
        due("changes", x.count(6), 8);
        due("the number", x.number(0), 8);
        x.undo();
        for (int k = 7; k >= 1; k--) {
            x.undo();
            due("the number", x.number(0), k);
        }
        due("none is left", x.count(6), 0);
    }

    private interface OfMill {
        long answer(RestMill x);
    }

    private static void dueThrowWithoutChange(String what, Class<?> want, OfMill call) {
        RestMill x = made(ONE_CHECK);
        x.set(0, 5);
        x.hurt(1, 0, 1);
        x.mend(0);
        x.printRegister(0);
        dueNoChange(what, x, () -> dueThrow(what, want, () -> call.answer(x)));
        due("the output after " + what, outputOf(x), "a=(5,5,5)=5");
    }

    private static void throwsWithoutChange() {
        RestMill x = made(ONE_CHECK);
        dueNoChange("undo()", x, () -> dueThrow("undo()", ELEMENT, () -> x.undo()));
        dueThrowWithoutChange("restoreState()", ELEMENT, y -> y.restoreState());
        dueThrowWithoutChange("set() to a number", ARGUMENT, y -> y.set(0, 1000000001));
        dueThrowWithoutChange("set()", INDEX, y -> y.set(8, 1));
        dueThrowWithoutChange("hurt() to a rest", ARGUMENT, y -> y.hurt(0, 0, 7));
        dueThrowWithoutChange("hurt()", INDEX, y -> y.hurt(0, 3, 0));
        dueThrowWithoutChange("operate() of an operation", ARGUMENT, y -> y.operate(5, 1, 0, 0));
        dueThrowWithoutChange("operate()", INDEX, y -> y.operate(0, 1, 0, 8));
        dueThrowWithoutChange("scale()", INDEX, y -> y.scale(0, 3));
        dueThrowWithoutChange("mend()", INDEX, y -> y.mend(8));
        dueThrowWithoutChange("swap()", INDEX, y -> y.swap(0, 8));
        dueThrowWithoutChange("grow()", ARGUMENT, y -> y.grow(98));
        dueThrowWithoutChange("drop()", INDEX, y -> y.drop(3));
        dueThrowWithoutChange("setStrict()", ARGUMENT, y -> y.setStrict(2));
        dueThrowWithoutChange("printRegister()", INDEX, y -> y.printRegister(8));
        dueThrowWithoutChange("exact() by 0", STATE, y -> y.exact(3, 0, 7));
    }

    private static void noSuchRegisterOrModulus() {
        RestMill x = new RestMill();
        for (int none : new int[] {-1, 8, LEAST, GREATEST}) {
            dueThrow("the register " + none, INDEX, () -> x.value(none));
        }
        due("the register 0", x.value(0), 0);
        due("the register 7", x.value(7), 0);
        for (int none : new int[] {-1, 3, LEAST, GREATEST}) {
            dueThrow("the modulus " + none, INDEX, () -> x.weight(none));
        }
        due("the modulus 0", x.weight(0), 715);
        due("the modulus 2", x.weight(2), 924);
        x.grow(2);
        due("the modulus 3 after grow()", x.modulus(3), 13);
        x.drop(0);
        dueThrow("the modulus 3 after drop()", INDEX, () -> x.modulus(3));
        x.undo();
        due("the modulus 3 after undo()", x.modulus(3), 13);
    }

    private static void smallestReason() {
        RestMill x = made(ONE_CHECK);
        put(x, 0, 3, 5, 0);
        x.setStrict(1);
        for (int operation = 3; operation <= 4; operation++) {
            int which = operation;
            due("why(" + which + ") of an unsound one by 0", x.why(which, 0, 1), 1);
            dueRefused("operate(" + which + ") of an unsound one by 0", 1, x, () -> x.operate(which, 2, 0, 1));
        }
    }

    private static void constants() {
        due("NONE", RestMill.NONE, -1);
        due("NO_ERROR", RestMill.NO_ERROR, 0);
        due("SYNTAX", RestMill.SYNTAX, 1);
        due("OUT_OF_RANGE", RestMill.OUT_OF_RANGE, 2);
        due("REPEATED", RestMill.REPEATED, 3);
        due("COMMON", RestMill.COMMON, 4);
        due("TOO_MANY", RestMill.TOO_MANY, 5);
    }

    private static void testSection1() {
        sentence("what it is", "An object is used for at most 512 calls after it has been made", TermsEdgesTest::callsOfOneObject);
        sentence("section 1", "There are 2 to 6 moduli", TermsEdgesTest::fromTwoModuliOn);
        sentence("section 1", "2 to 6 moduli", TermsEdgesTest::toSixModuli);
        sentence("section 1", "moduli (2 to 97 each)", TermsEdgesTest::modulusFromTwoTo97);
        sentence("section 1", "numbered from 0; no two", TermsEdgesTest::moduliNumberedFromZero);
        sentence("section 1", "no two of them have a common divisor above 1", TermsEdgesTest::noCommonDivisor);
        sentence("section 1", "The last CHECKS (0 to 2,", TermsEdgesTest::checksFromZeroToTwo);
        sentence("section 1", "but so that at least one modulus is left", TermsEdgesTest::oneModulusIsLeft);
        sentence("section 1", "of them are checks, the others are bases", TermsEdgesTest::theLastAreChecks);
        sentence("section 1", "WHOLE is the product of all moduli, at most 1000000000", TermsEdgesTest::wholeAtMost);
        sentence("section 1", "RANGE is the product of the bases; HALF is (RANGE - 1) / 2, rounded down", TermsEdgesTest::rangeAndHalf);
        sentence("section 1", "There are 8 registers, numbered from 0 (a is the register 0, and so on to h)", TermsEdgesTest::eightRegisters);
        sentence("section 1", "A register has a rest for each modulus, from 0 to the modulus less 1; all are 0 at first", TermsEdgesTest::restsFromZero);
        sentence("section 1", "VALUE of a register is the number from 0 to WHOLE less 1 that has these rests", TermsEdgesTest::valueOfRests);
        sentence("section 1", "NUMBER of a register is VALUE if that is at most (WHOLE - 1) / 2, rounded down; otherwise it is VALUE less WHOLE",
                TermsEdgesTest::numberOfValue);
        sentence("section 1", "A register is sound if NUMBER is from -HALF to HALF", TermsEdgesTest::soundWithinHalf);
        sentence("section 1", "A number fits if it is from -HALF to HALF, too", TermsEdgesTest::fitsWithinHalf);
        sentence("section 1", "The rests of a number, which may be below 0, are those from 0 on", TermsEdgesTest::restsBelowZero);
    }

    private static void testSections2And3() {
        sentence("section 2", "each digit from 0 to its modulus less 1", TermsEdgesTest::digitsUpToModulus);
        sentence("section 2", "VALUE is digit 0, plus digit 1 times the modulus 0, plus digit 2 times the moduli 0 and 1", TermsEdgesTest::digitsMakeValue);
        sentence("section 2", "The part of a register for a modulus is the number from 0 to WHOLE less 1", TermsEdgesTest::partsBelowWhole);
        sentence("section 2", "The sum of all parts is VALUE plus RANK times WHOLE", TermsEdgesTest::partsMakeValueAndRank);
        sentence("section 2", "RANK is whole, from 0 on", TermsEdgesTest::rankFromZero);
        sentence("section 3", "0 sum, 1 difference, 2 product: of the rests of both, modulus by modulus", TermsEdgesTest::modulusByModulus);
        sentence("section 3", "rounded down (-7 by 2 is -4, 7 by -2 is -4)", TermsEdgesTest::quotientRoundedDown);
        sentence("section 3", "4 remainder: the NUMBER of the first one less the second one times that quotient", TermsEdgesTest::remainderOfQuotient);
        sentence("section 3", "These two need a second one whose NUMBER is not 0", TermsEdgesTest::secondOneNotZero);
        sentence("section 3", "To scale by a modulus gives the quotient by that modulus, rounded down", TermsEdgesTest::scaledRoundedDown);
        sentence("section 3", "STRICT is 0 or 1; 0 at first", TermsEdgesTest::strictIsZeroOrOne);
        sentence("section 3", "What is told of a register (VALUE, NUMBER, whether it is sound) is told of such a row likewise",
                TermsEdgesTest::rowsAsRegisters);
        sentence("section 3", "1 a divisor is 0", TermsEdgesTest::divisorIsZero);
        sentence("section 3", "2 STRICT is 1, and a result is not sound", TermsEdgesTest::refusedIfNotSound);
        sentence("section 3", "3 there is nothing to mend, or it cannot be", TermsEdgesTest::nothingToMend);
        sentence("section 3", "4 moduli cannot be so", TermsEdgesTest::moduliCannotBe);
        sentence("section 3", "5 a number does not fit", TermsEdgesTest::doesNotFit);
        sentence("section 3", "What is refused changes nothing but the accounts", TermsEdgesTest::refusedChangesNothing);
        sentence("section 3", "What is refused changes nothing", TermsEdgesTest::refusedLeavesNothingPending);
        sentence("section 3", "another rest with which it would be sound; a sound one has none", TermsEdgesTest::faultsOfUnsoundOnes);
        sentence("section 3", "for the modulus with the smallest number among its faults", TermsEdgesTest::mendedByTheFirstFault);
        sentence("section 3", "its rest becomes the least one with which it is sound", TermsEdgesTest::mendedByTheLeastRest);
        sentence("section 3", "The accounts are: 0 acts that were done", TermsEdgesTest::actsThatWereDone);
        sentence("section 3", "Acts are the methods whose description says so", TermsEdgesTest::actsOfMethods);
        sentence("section 3", "the statements of a script of which these tell, and those that give a register a sum; a script is none",
                TermsEdgesTest::actsOfScripts);
        sentence("section 3", "1 to 5 acts that were refused for this reason", TermsEdgesTest::refusedForEachReason);
        sentence("section 3", "6 acts that were done whose result is not sound", TermsEdgesTest::doneAndNotSound);
        sentence("section 3", "of an expression the last one counts", TermsEdgesTest::lastOfAnExpression);
        sentence("section 3", "grow() and drop() have none", TermsEdgesTest::growAndDropHaveNoResult);
        sentence("section 3", "7 statements of scripts that were done", TermsEdgesTest::statementsThatWereDone);
        sentence("section 3", "Undoing takes the accounts back, too", TermsEdgesTest::undoneAccounts);
    }

    private static void testSection5() {
        sentence("section 5", "What would be is worked out without a change", TermsEdgesTest::withoutAChange);
        sentence("section 5", "Changes are the methods whose description says so, if they are done", TermsEdgesTest::changesThatAreDone);
        sentence("section 5", "also if nothing is different then", TermsEdgesTest::changesOfNothing);
        sentence("section 5", "a script is one change as a whole (also if nothing of it is done)", TermsEdgesTest::scriptIsOneChange);
        sentence("section 5", "At most 8 changes are kept to be undone", TermsEdgesTest::eightChanges);
        sentence("section 5", "a further one puts the oldest of them away for good", TermsEdgesTest::oldestIsPutAway);
        sentence("section 5", "one that was undone is kept no more", TermsEdgesTest::undoneIsKeptNoMore);
        sentence("section 5", "an act that is refused is no change", TermsEdgesTest::refusedIsNoChange);
        sentence("section 5", "A method that throws changes nothing", TermsEdgesTest::throwsWithoutChange);
        sentence("section 5", "IndexOutOfBoundsException is thrown if there is no such register (0 to 7) or modulus", TermsEdgesTest::noSuchRegisterOrModulus);
        sentence("section 5", "If several reasons apply to an act, the smallest one is told", TermsEdgesTest::smallestReason);
        sentence("section 5", "`NONE = -1`: There is no such thing", TermsEdgesTest::constants);
    }

    public static void main(String[] args) {
        begin(args);
        testSection1();
        testSections2And3();
        testSection5();
        end();
    }
}
