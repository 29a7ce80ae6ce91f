/** The sentences of the promises 1 and 8 to 48 that name a boundary case, each with a test of its own. */
public final class PromiseEdgesTest extends Sentences {
    private static final String ONE_CHECK = "moduli 7 11 13; checks 1;";
    private static final String NO_CHECK = "moduli 7 11 13;";

    private static RestMill with(String setup, int... numbers) {
        RestMill x = made(setup);
        for (int register = 0; register < numbers.length; register++) {
            due("set(" + register + ", " + numbers[register] + ")", x.set(register, numbers[register]), 0);
        }
        return x;
    }

    private static void put(RestMill x, int register, int... rests) {
        for (int k = 0; k < rests.length; k++) {
            x.hurt(register, k, rests[k]);
        }
    }

    /** All registers alike; rests are set a register at a time. */
    private static RestMill allWith(String setup, int... rests) {
        RestMill x = made(setup);
        for (int register = 0; register < REGISTERS; register++) {
            put(x, register, rests);
        }
        return x;
    }

    // Promise 1

    private static void newObject() {
        RestMill x = new RestMill();
        due("moduli", moduliOf(x), "7 11 13 ");
        due("CHECKS", x.count(1), 1);
        due("STRICT", x.count(2), 0);
        due("numbers", numbersOf(x), "0 0 0 0 0 0 0 0 ");
        due("accounts", accountsOf(x), "0 0 0 0 0 0 0 0 ");
        due("changes", x.count(6), 0);
        due("a state", stateOf(x), stateOf(made(ONE_CHECK)));
        dueThrow("undo()", ELEMENT, () -> x.undo());
        dueThrow("restoreState()", ELEMENT, () -> x.restoreState());
        due("outputByte(0)", x.outputByte(0), -1);
    }

    private static void emptyBuffer() {
        RestMill x = new RestMill();
        due("truncateInput(1)", x.truncateInput(1), false);
        due("truncateInput(0)", x.truncateInput(0), true);
        due("appendInput()", x.appendInput(0, 0, 0, 0, 0), 20);
        due("playScript()", new RestMill().playScript(), 0);
    }

    private static void objectsOfTheirOwn() {
        RestMill x = new RestMill();
        RestMill y = new RestMill();
        x.set(0, 5);
        x.grow(2);
        x.printModuli();
        due("the numbers of another", numbersOf(y), "0 0 0 0 0 0 0 0 ");
        due("its moduli", moduliOf(y), "7 11 13 ");
        due("its changes", y.count(6), 0);
        due("its output", y.outputByte(0), -1);
    }

    // Promises 8 to 13

    private static void countsOfNewObject() {
        RestMill x = made(ONE_CHECK);
        long[] counts = {3, 1, 0, 8, 8, 0, 0};
        for (int what = 0; what < counts.length; what++) {
            due("count(" + what + ")", x.count(what), counts[what]);
        }
    }

    private static void countsOfModuli() {
        RestMill two = made("moduli 7 11; strict 1;");
        due("two moduli", two.count(0), 2);
        due("no CHECKS", two.count(1), 0);
        due("STRICT", two.count(2), 1);
        RestMill six = made("moduli 2 3 5 7 11 13; checks 2;");
        due("six moduli", six.count(0), 6);
        due("two CHECKS", six.count(1), 2);
        six.drop(5);
        due("five moduli", six.count(0), 5);
        due("one of CHECKS", six.count(1), 1);
    }

    private static void countsOfSoundOnes() {
        due("none is sound", allWith(ONE_CHECK, 1, 0, 0).count(3), 0);
        RestMill x = with(ONE_CHECK, 38, -38);
        due("all are sound", x.count(3), 8);
        x.hurt(0, 0, 1);
        due("the first is not", x.count(3), 7);
        x.hurt(7, 0, 1);
        due("the last is not", x.count(3), 6);
    }

    private static void countsOfSigns() {
        RestMill x = made(ONE_CHECK);
        due("all are 0", x.count(4), 8);
        due("none is below 0", x.count(5), 0);
        RestMill below = allWith(NO_CHECK, 6, 10, 12);
        due("none is 0", below.count(4), 0);
        due("all are below 0", below.count(5), 8);
        RestMill above = allWith(NO_CHECK, 1, 1, 1);
        due("none is 0 then", above.count(4), 0);
        due("none is below 0 then", above.count(5), 0);
        RestMill ends = made("moduli 4 3;");
        put(ends, 0, 2, 0);
        put(ends, 7, 1, 2);
        due("-WHOLE / 2 is below 0", ends.count(5), 1);
        due("six are 0", ends.count(4), 6);
    }

    private static void countsOfChanges() {
        RestMill x = made(ONE_CHECK);
        for (int k = 1; k <= 10; k++) {
            x.setStrict(k % 2);
            due("changes", x.count(6), Math.min(k, 8));
        }
        x.undo();
        due("changes after undo()", x.count(6), 7);
    }

    private static void accountsOfNewObject() {
        RestMill x = made(ONE_CHECK);
        play(x, "a = 1;");
        due("account(0)", x.account(0), 1);
        due("account(7)", x.account(7), 1);
    }

    private static void boundsAsked() {
        RestMill x = made(ONE_CHECK);
        due("bound(0)", x.bound(0), 77);
        due("bound(1)", x.bound(1), 1001);
        due("bound(2)", x.bound(2), 38);
    }

    private static void moduliAsked() {
        RestMill x = made(ONE_CHECK);
        due("modulus(0)", x.modulus(0), 7);
        due("modulus(2)", x.modulus(2), 13);
        x.grow(97);
        due("modulus(3)", x.modulus(3), 13);
    }

    private static void inverses() {
        RestMill x = made("moduli 7 13 2 97 15;");
        int[][] dues = {{0, 2, 1}, {1, 0, 6}, {0, 1, 2}, {2, 3, 49}, {3, 2, 1}, {2, 0, 4}, {0, 4, 13}, {4, 0, 1}, {3, 1, 11}};
        for (int[] one : dues) {
            due("inverse(" + one[0] + ", " + one[1] + ")", x.inverse(one[0], one[1]), one[2]);
        }
        RestMill y = made("moduli 96 97;");
        due("the greatest, of 96 by 97", y.inverse(0, 1), 96);
        due("the least, of 97 by 96", y.inverse(1, 0), 1);
    }

    private static void inverseOfTheSame() {
        RestMill x = made("moduli 2 3 97;");
        for (int k = 0; k < 3; k++) {
            due("inverse() of the same", x.inverse(k, k), 0);
        }
    }

    private static void weights() {
        RestMill x = made(ONE_CHECK);
        due("weight(0)", x.weight(0), 715);
        due("weight(1)", x.weight(1), 364);
        due("weight(2)", x.weight(2), 924);
        RestMill two = made("moduli 2 3;");
        due("weight(0) of two", two.weight(0), 3);
        due("weight(1) of two", two.weight(1), 4);
        RestMill great = made("moduli 41 49 61 85 96;");
        for (int k = 0; k < 5; k++) {
            long weight = great.weight(k);
            due("weight(" + k + ") from 0 to WHOLE less 1", weight >= 0 && weight < 999999840, true);
            for (int by = 0; by < 5; by++) {
                due("weight(" + k + ") by " + great.modulus(by), weight % great.modulus(by), k == by ? 1 : 0);
            }
        }
    }

    // Promises 14 to 24

    private static void restsAsked() {
        RestMill x = with(ONE_CHECK, -1, 0, 38);
        due("the greatest rests", restsOf(x, 0), "6 10 12 ");
        due("the least rests", restsOf(x, 1), "0 0 0 ");
        due("the rests of 38", restsOf(x, 2), "3 5 12 ");
        due("rest() of the last of both", x.rest(7, 2), 0);
    }

    private static void digitsAsked() {
        RestMill x = with("moduli 2 3 5 7;", -1, 1, 2, 6, 30);
        int[][] digits = {{1, 2, 4, 6}, {1, 0, 0, 0}, {0, 1, 0, 0}, {0, 0, 1, 0}, {0, 0, 0, 1}, {0, 0, 0, 0}};
        for (int register = 0; register < digits.length; register++) {
            for (int k = 0; k < 4; k++) {
                due("digit(" + register + ", " + k + ")", x.digit(register, k), digits[register][k]);
            }
        }
    }

    private static void partsAsked() {
        RestMill x = with(ONE_CHECK, 25, 0, -1);
        int[][] parts = {{858, 91, 77}, {0, 0, 0}, {286, 637, 77}};
        for (int register = 0; register < parts.length; register++) {
            for (int k = 0; k < 3; k++) {
                due("part(" + register + ", " + k + ")", x.part(register, k), parts[register][k]);
            }
        }
    }

    private static void ranksAsked() {
        RestMill x = with(ONE_CHECK, 25, 0, -1, 1);
        int[] ranks = {1, 0, 0, 2};
        for (int register = 0; register < ranks.length; register++) {
            due("rank(" + register + ")", x.rank(register), ranks[register]);
        }
    }

    private static void valuesAsked() {
        RestMill x = with(NO_CHECK, 500, -500, -1, 0);
        long[] values = {500, 501, 1000, 0};
        for (int register = 0; register < values.length; register++) {
            due("value(" + register + ")", x.value(register), values[register]);
        }
        RestMill great = with("moduli 41 49 61 85 96;", 499999919, -499999919, -1);
        due("VALUE of the greatest NUMBER", great.value(0), 499999919);
        due("VALUE of its opposite", great.value(1), 499999921);
        due("the greatest VALUE", great.value(2), 999999839);
    }

    private static void numbersAsked() {
        RestMill x = with(NO_CHECK, 500, -500, -1, 0);
        long[] numbers = {500, -500, -1, 0};
        for (int register = 0; register < numbers.length; register++) {
            due("number(" + register + ")", x.number(register), numbers[register]);
        }
        RestMill great = with("moduli 41 49 61 85 96;", 499999919, -499999919);
        due("the greatest NUMBER", great.number(0), 499999919);
        due("its opposite", great.number(1), -499999919);
        put(great, 2, 0, 0, 0, 0, 48);
        due("NUMBER of -WHOLE / 2", great.number(2), -499999920);
        due("VALUE of it", great.value(2), 499999920);
    }

    private static void soundAsked() {
        RestMill x = with(ONE_CHECK, 38, -38, 1);
        due("isSound() of HALF", x.isSound(0), true);
        due("isSound() of -HALF", x.isSound(1), true);
        x.operate(0, 3, 0, 2);
        x.operate(1, 4, 1, 2);
        due("isSound() of HALF + 1", x.isSound(3), false);
        due("isSound() of -HALF - 1", x.isSound(4), false);
    }

    private static void compared() {
        RestMill x = with(NO_CHECK, 500, -500, -499, 0, -500);
        due("500 and -500", x.compare(0, 1), 1);
        due("-500 and 500", x.compare(1, 0), -1);
        due("-500 and -499", x.compare(1, 2), -1);
        due("-499 and -500", x.compare(2, 1), 1);
        due("0 and -499", x.compare(3, 2), 1);
        due("-500 and -500", x.compare(1, 4), 0);
        due("0 and 0", x.compare(3, 7), 0);
        due("a register and itself", x.compare(0, 0), 0);
    }

    private static void extendedBy() {
        RestMill x = with(NO_CHECK, 5, -5);
        due("5 by 2", x.extend(0, 2, true), 1);
        due("-5 by 2", x.extend(1, 2, true), 1);
        due("5 by 5", x.extend(0, 5, true), 0);
        due("-5 by 5", x.extend(1, 5, true), 0);
        due("-5 by 6", x.extend(1, 6, true), 1);
        due("-5 by 9999", x.extend(1, 9999, true), 9994);
        due("VALUE of -5 by 9999", x.extend(1, 9999, false), 996);
        due("VALUE of -5 by 996", x.extend(1, 996, false), 0);
        due("VALUE of 5 by 9999", x.extend(0, 9999, false), 5);
        RestMill great = with("moduli 41 49 61 85 96;", 499999919);
        due("a great one by 9999", great.extend(0, 9999, true), 499999919 % 9999);
    }

    private static void extendedRests() {
        RestMill x = with(NO_CHECK, 498, -498, 0, 1, -1);
        due("498 by 499", x.extend(0, 499, true), 498);
        due("498 by 498", x.extend(0, 498, true), 0);
        due("-498 by 499", x.extend(1, 499, true), 1);
        due("-498 by 498", x.extend(1, 498, true), 0);
        due("VALUE of -498 by 503", x.extend(1, 503, false), 0);
        due("VALUE of -498 by 504", x.extend(1, 504, false), 503);
        due("0 by 2", x.extend(2, 2, true), 0);
        due("1 by 2", x.extend(3, 2, true), 1);
        due("-1 by 2", x.extend(4, 2, true), 1);
        due("VALUE of -1 by 2", x.extend(4, 2, false), 0);
        due("-1 by 9999", x.extend(4, 9999, true), 9998);
    }

    private static void gapIsZero() {
        due("gap() at first", new RestMill().gap(), 0);
        due("gap() of unsound ones", allWith(ONE_CHECK, 6, 0, 12).gap(), 0);
        due("gap() of great ones", allWith("moduli 41 49 61 85 96;", 40, 48, 60, 84, 95).gap(), 0);
        due("gap() of -WHOLE / 2", allWith("moduli 4 3;", 2, 0).gap(), 0);
    }

    private static void distances() {
        RestMill x = made("moduli 2 3 5 7 11 13;");
        due("0 and 0", x.distance(0, 7), 0);
        for (int k = 0; k < 6; k++) {
            x.hurt(0, k, 1);
            due("one more rest", x.distance(0, 1), k + 1);
            due("the other way", x.distance(1, 0), k + 1);
        }
        due("a register and itself", x.distance(0, 0), 0);
    }

    // Promises 25 and 26

    private static void exactNumbers() {
        RestMill x = with("moduli 41 49 61 85 96;", 499999919, -499999919, 2);
        due("a sum above WHOLE / 2", x.exact(0, 0, 0), 999999838);
        due("a difference below -WHOLE / 2", x.exact(1, 1, 0), -999999838);
        due("a great product", x.exact(2, 0, 1), -499999919L * 499999919L);
        due("a quotient rounded down", x.exact(3, 1, 2), -249999960);
        due("a remainder", x.exact(4, 1, 2), 1);
        RestMill y = made("moduli 4 3; set b - 1;");
        y.hurt(0, 0, 2);
        due("-6 by -1", y.exact(3, 0, 1), 6);
        due("the remainder of -6 by -1", y.exact(4, 0, 1), 0);
        due("-6 times -6", y.exact(2, 0, 0), 36);
    }

    private static void exactWithZero() {
        RestMill x = with(ONE_CHECK, 5);
        due("exact() of 0 by 5", x.exact(3, 1, 0), 0);
        due("the product with 0", x.exact(2, 0, 1), 0);
        due("0 less 5", x.exact(1, 1, 0), -5);
        due("the sum with 0", x.exact(0, 0, 1), 5);
    }

    private static void whyOfRefusals() {
        RestMill x = with(ONE_CHECK, 38, 1, 37);
        due("39 while STRICT is 0", x.why(0, 0, 1), 0);
        due("a quotient by 0", x.why(3, 0, 7), 1);
        due("a remainder by 0", x.why(4, 7, 7), 1);
        x.setStrict(1);
        due("39", x.why(0, 0, 1), 2);
        due("38", x.why(0, 2, 1), 0);
        due("a quotient by 0 while STRICT is 1", x.why(3, 0, 7), 1);
        due("a difference of 0", x.why(1, 0, 0), 0);
    }

    private static void whyOfResults() {
        RestMill x = with(NO_CHECK, 499, 1, 2, -499, 500);
        due("500", x.why(0, 0, 1), 0);
        due("501", x.why(0, 0, 2), 6);
        due("-500", x.why(1, 3, 1), 0);
        due("-501", x.why(1, 3, 2), 6);
        due("1000", x.why(2, 4, 2), 6);
        due("a quotient", x.why(3, 4, 2), 0);
        due("a remainder", x.why(4, 4, 2), 0);
        RestMill even = with("moduli 4 3;", 5, 1, -5, -1);
        due("6 of WHOLE 12", even.why(0, 0, 1), 6);
        due("-6 of WHOLE 12", even.why(1, 2, 1), 0);
        even.hurt(4, 0, 2);
        due("-6 by -1", even.why(3, 4, 3), 6);
        even.setStrict(1);
        due("6 of WHOLE 12 while STRICT is 1", even.why(0, 0, 1), 2);
        RestMill wrapped = made("moduli 7 11 13; checks 1; strict 1; set a 32;");
        due("1024 as 23", wrapped.why(2, 0, 0), 6);
        due("is done", wrapped.operate(2, 1, 0, 0), 0);
        due("as 23", wrapped.number(1), 23);
    }

    // Promises 27 to 33

    private static void faultSets() {
        RestMill x = made("moduli 2 3 5 7 11 13; checks 1;");
        due("a sound one", x.faults(0), 0);
        x.hurt(0, 5, 1);
        due("bits for the modulus 2 and the last", x.faults(0), 36);
        RestMill two = made("moduli 2 3 5 7 11 13; checks 2;");
        two.hurt(0, 5, 1);
        due("a bit for the last alone", two.faults(0), 32);
        two.hurt(0, 5, 0);
        two.hurt(0, 4, 1);
        due("a bit for the fifth", two.faults(0) >> 4 & 1, 1);
        RestMill y = with(ONE_CHECK, 38, 1);
        y.operate(0, 2, 0, 1);
        due("a bit for the check alone", y.faults(2), 4);
    }

    private static void numbersWithOtherRests() {
        RestMill x = with(ONE_CHECK, 0, 36);
        due("with a rest for 7", x.numberWith(0, 0, 1), -286);
        due("with the greatest rest for 7", x.numberWith(0, 0, 6), 286);
        due("with the greatest rest for 13", x.numberWith(0, 2, 12), 77);
        due("with its own rest", x.numberWith(1, 0, 1), 36);
        due("with 0", x.numberWith(1, 1, 0), -55);
        RestMill even = made("moduli 4 3;");
        due("-WHOLE / 2", even.numberWith(0, 0, 2), -6);
    }

    private static void leastNextModulus() {
        due("of 7 11 13", new RestMill().nextModulus(), 2);
        due("of 2 97", made("moduli 2 97;").nextModulus(), 3);
        due("of 6 35", made("moduli 6 35;").nextModulus(), 11);
        due("of 3 5, 4 is not the least", made("moduli 3 5;").nextModulus(), 2);
        due("of 2 11 51 91 95", made("moduli 2 11 51 91 95;").nextModulus(), 23);
        RestMill x = made("moduli 6 35;");
        due("can be grown", x.grow(x.nextModulus()), 0);
    }

    private static void noNextModulus() {
        due("of six", made("moduli 2 3 5 7 11 13;").nextModulus(), RestMill.NONE);
        due("of five", made("moduli 2 3 5 7 11;").nextModulus(), 13);
        due("WHOLE just fits", made("moduli 17 41 49 61 96;").nextModulus(), 5);
        due("it can be grown", made("moduli 17 41 49 61 96;").grow(5), 0);
        due("WHOLE too great", made("moduli 25 27 29 82 89;").nextModulus(), RestMill.NONE);
        due("it can't be grown", made("moduli 25 27 29 82 89;").grow(7), 4);
        due("WHOLE too great by anyone", made("moduli 41 49 61 85 96;").nextModulus(), RestMill.NONE);
    }

    private static void spareModuli() {
        due("of two", made("moduli 7 11;").spare(), 0);
        due("of three", made(NO_CHECK).spare(), 7);
        due("of six", made("moduli 2 3 5 7 11 13;").spare(), 63);
        due("not the only base", made("moduli 7 11 13; checks 2;").spare(), 6);
        due("each of two bases", made("moduli 7 11 13; checks 1;").spare(), 7);
        RestMill x = with(NO_CHECK, 38);
        due("38 by 77, 91 or 143", x.spare(), 7);
        x.set(7, 39);
        due("39 in the last register", x.spare(), 3);
        x.set(7, -45);
        due("-45", x.spare(), 3);
        x.set(7, 46);
        due("46", x.spare(), 1);
        x.set(0, 72);
        due("72", x.spare(), 0);
    }

    private static void spareAsDrop() {
        for (int number : new int[] {-72, -71, -46, -45, -39, -38, 0, 38, 39, 45, 46, 71, 72}) {
            for (int k = 0; k < 3; k++) {
                RestMill x = with(NO_CHECK, 0, number);
                int bit = x.spare() >> k & 1;
                due("drop(" + k + ") with " + number, x.drop(k), bit == 1 ? 0 : 4);
                due("its NUMBER", x.number(1), number);
            }
        }
    }

    private static void greatestRegister() {
        due("of zeros", new RestMill().greatest(), 0);
        due("the smallest on a tie", with(NO_CHECK, 0, 5, -5, 5).greatest(), 1);
        due("a tie of signs", with(NO_CHECK, -5, 5).greatest(), 0);
        due("without its sign", with(NO_CHECK, 5, -6).greatest(), 1);
        due("the last", with(NO_CHECK, 1, 2, 3, 4, 5, 6, 7, -8).greatest(), 7);
        due("NUMBER and not VALUE", with(NO_CHECK, -1, 2).greatest(), 1);
        RestMill even = with("moduli 4 3;", 5);
        put(even, 3, 2, 0);
        due("-WHOLE / 2", even.greatest(), 3);
    }

    private static void means() {
        due("of zeros", Double.toString(new RestMill().mean()), "0.0");
        due("an eighth", Double.toString(with(NO_CHECK, 1).mean()), "0.125");
        due("below 0", Double.toString(with(NO_CHECK, -1).mean()), "-0.125");
        due("of opposites", Double.toString(with(NO_CHECK, 500, -500).mean()), "0.0");
        due("of the last", Double.toString(with(NO_CHECK, 0, 0, 0, 0, 0, 0, 0, 500).mean()), "62.5");
        RestMill great = with("moduli 41 49 61 85 96;", 499999919, 499999919, 499999919, 499999919, 499999919, 499999919,
                499999919, 499999919);
        due("of the greatest", Double.toString(great.mean()), Double.toString(499999919.0));
    }

    private static void zeroShares() {
        due("all", Float.toString(new RestMill().zeroShare()), "1.0");
        due("none", Float.toString(allWith(NO_CHECK, 1, 1, 1).zeroShare()), "0.0");
        RestMill x = made(NO_CHECK);
        x.hurt(0, 0, 1);
        due("all but the first", Float.toString(x.zeroShare()), Float.toString(23f / 24f));
        x.hurt(7, 2, 1);
        due("all but the last too", Float.toString(x.zeroShare()), Float.toString(22f / 24f));
        x.grow(2);
        due("of 32 rests", Float.toString(x.zeroShare()), Float.toString(zerosOf(x) / 32f));
    }

    private static int zerosOf(RestMill x) {
        int zeros = 0;
        for (int register = 0; register < REGISTERS; register++) {
            for (int k = 0; k < x.count(0); k++) {
                zeros += x.rest(register, k) == 0 ? 1 : 0;
            }
        }
        return zeros;
    }

    // Promises 34 to 42

    private static void setNumbers() {
        RestMill x = made(ONE_CHECK);
        for (int number : new int[] {-1000000000, -39, 39, 1000000000}) {
            dueRefused("set(0, " + number + ")", 5, x, () -> x.set(0, number));
        }
        for (int number : new int[] {-38, -1, 0, 1, 38}) {
            due("set(0, " + number + ")", x.set(0, number), 0);
            due("its NUMBER", x.number(0), number);
        }
        due("set(7, 38)", x.set(7, 38), 0);
        due("its act", x.account(0), 6);
        due("its changes", x.count(6), 6);
        RestMill y = made("moduli 7 11 13; checks 1; strict 1;");
        dueRefused("set(0, 39) while STRICT is 1", 5, y, () -> y.set(0, 39));
    }

    private static void hurtRests() {
        RestMill x = with(ONE_CHECK, 38);
        due("the rest before", x.hurt(0, 0, 0), 3);
        due("the rest before that", x.hurt(0, 0, 6), 0);
        due("of the last", x.hurt(7, 2, 12), 0);
        due("of the last again", x.hurt(7, 2, 12), 12);
        due("other rests stay", restsOf(x, 0), "6 5 12 ");
        due("other registers stay", x.count(4), 6);
        due("no act", x.account(0), 1);
        due("changes", x.count(6), 5);
        x.setStrict(1);
        due("while STRICT is 1, too", x.hurt(7, 2, 5), 12);
    }

    private static void restsBefore() {
        RestMill x = with(ONE_CHECK, -1);
        due("the greatest", x.hurt(0, 2, 3), 12);
        due("what it was set to", x.hurt(0, 2, 3), 3);
        due("the same again", x.hurt(0, 2, 0), 3);
        due("0", x.hurt(0, 2, 12), 0);
        due("of another register", x.hurt(1, 2, 1), 0);
        due("of another modulus", x.hurt(0, 1, 1), 10);
    }

    private static void operations() {
        RestMill x = with(NO_CHECK, -7, 2);
        long[] results = {-5, -9, -14, -4, 1};
        for (int operation = 0; operation < 5; operation++) {
            due("operate(" + operation + ")", x.operate(operation, 7, 0, 1), 0);
            due("its result", x.number(7), results[operation]);
        }
        due("into the first", x.operate(1, 0, 0, 1), 0);
        due("is -9", x.number(0), -9);
        due("into the second", x.operate(3, 1, 0, 1), 0);
        due("is -5", x.number(1), -5);
        due("of itself into itself", x.operate(1, 1, 1, 1), 0);
        due("is 0", x.number(1), 0);
        due("its acts", x.account(0), 10);
    }

    private static void operationsRefused() {
        RestMill x = with(ONE_CHECK, 38, 1);
        dueRefused("a quotient by 0", 1, x, () -> x.operate(3, 0, 0, 2));
        dueRefused("a remainder by 0", 1, x, () -> x.operate(4, 0, 0, 2));
        x.setStrict(1);
        dueRefused("39", 2, x, () -> x.operate(0, 0, 0, 1));
        dueRefused("a quotient by 0 while STRICT is 1", 1, x, () -> x.operate(3, 0, 0, 2));
        x.setStrict(0);
        due("39 while STRICT is 0", x.operate(0, 0, 0, 1), 0);
        due("is not sound", x.isSound(0), false);
        due("and counts", x.account(6), 1);
    }

    private static void scaled() {
        RestMill x = with(NO_CHECK, 500, -500, 12, -1);
        due("500 by 7", x.scale(0, 0), 0);
        due("-500 by 7", x.scale(1, 0), 0);
        due("12 by 13", x.scale(2, 2), 0);
        due("-1 by 13", x.scale(3, 2), 0);
        due("the numbers", numbersOf(x), "71 -72 0 -1 0 0 0 0 ");
        due("the acts", x.account(0), 8);
        RestMill y = made("moduli 2 7 11; checks 2;");
        put(y, 0, 0, 2, 1);
        due("-54 by 2 while STRICT is 0", y.scale(0, 0), 0);
        due("is -27", y.number(0), -27);
        y.setStrict(1);
        dueRefused("-27 by 2", 2, y, () -> y.scale(0, 0));
        due("0 by 2 while STRICT is 1", y.scale(1, 0), 0);
    }

    private static void scaleRefused() {
        RestMill x = made("moduli 2 7 11; checks 2; strict 1;");
        put(x, 0, 0, 2, 1);
        put(x, 1, 1, 1, 1);
        dueRefused("scale() of -54 to -27", 2, x, () -> x.scale(0, 0));
        due("scale() of 1 to 0", x.scale(1, 0), 0);
        due("scale() of 0", x.scale(2, 0), 0);
        x.setStrict(0);
        due("scale() of -54 to -27 while STRICT is 0", x.scale(0, 0), 0);
    }

    private static void mended() {
        RestMill x = with(ONE_CHECK, 38, 1);
        dueRefused("mend() of a sound one", 3, x, () -> x.mend(0));
        x.operate(0, 2, 0, 1);
        due("mend() of 39", x.mend(2), 0);
        due("is -38", x.number(2), -38);
        dueRefused("mend() again", 3, x, () -> x.mend(2));
        due("the acts", x.account(0), 4);
        due("the changes", x.count(6), 4);
        RestMill y = made("moduli 5 7 97 89; checks 2; strict 1;");
        put(y, 7, 3, 3, 50, 60);
        dueRefused("mend() without faults", 3, y, () -> y.mend(7));
        RestMill z = made("moduli 7 11 13; checks 1; strict 1;");
        put(z, 7, 4, 6, 0);
        due("mend() while STRICT is 1", z.mend(7), 0);
    }

    private static void swapped() {
        RestMill x = with(NO_CHECK, 5, -5);
        due("swap(0, 1)", x.swap(0, 1), -1);
        due("swap(0, 1) again", x.swap(0, 1), 1);
        due("swap(1, 0)", x.swap(1, 0), 1);
        due("swap(0, 7)", x.swap(0, 7), 1);
        due("the numbers", numbersOf(x), "0 5 0 0 0 0 0 -5 ");
        due("swap(3, 3)", x.swap(3, 3), 0);
        due("swap(3, 4) of alike ones", x.swap(3, 4), 0);
        due("the changes", x.count(6), 8);
        due("no act", x.account(0), 2);
        RestMill y = made(ONE_CHECK);
        put(y, 0, 4, 6, 0);
        y.setStrict(1);
        due("swap() of an unsound one while STRICT is 1", y.swap(0, 1), -1);
        due("its rests", restsOf(y, 1), "4 6 0 ");
    }

    private static void grownModuli() {
        RestMill x = made("moduli 7 11;");
        due("grow(97)", x.grow(97), 0);
        due("grow(2)", x.grow(2), 0);
        due("without checks", printedModuli(x), "7 11 97 2");
        RestMill y = made("moduli 7 11; checks 1;");
        y.grow(97);
        due("ahead of one check", printedModuli(y), "7 97 11?");
        RestMill z = made("moduli 7 11 13; checks 2;");
        z.grow(97);
        z.grow(2);
        due("ahead of two checks", printedModuli(z), "7 97 2 11? 13?");
        due("the acts", z.account(0), 2);
        due("the changes", z.count(6), 2);
        due("RANGE", z.bound(0), 7 * 97 * 2);
        due("CHECKS", z.count(1), 2);
    }

    private static void grownKeepsNumbers() {
        RestMill x = with(ONE_CHECK, 38, -38);
        put(x, 2, 3, 5, 6);
        due("the numbers", numbersOf(x), "38 -38 500 0 0 0 0 0 ");
        due("grow(2)", x.grow(2), 0);
        due("the numbers then", numbersOf(x), "38 -38 500 0 0 0 0 0 ");
        due("the rests of -38", restsOf(x, 1), "4 6 0 1 ");
        due("the rests of 500", restsOf(x, 2), "3 5 0 6 ");
        RestMill y = made("moduli 4 3;");
        y.hurt(0, 0, 2);
        due("grow(5)", y.grow(5), 0);
        due("NUMBER that was -WHOLE / 2", y.number(0), -6);
        due("its VALUE", y.value(0), 54);
        due("is sound then", y.isSound(0), true);
    }

    private static void growRefused() {
        RestMill six = made("moduli 2 3 5 7 11 13;");
        dueRefused("a 7th", 4, six, () -> six.grow(17));
        RestMill x = made("moduli 6 35; checks 1;");
        dueRefused("a common divisor with a base", 4, x, () -> x.grow(9));
        dueRefused("a common divisor with a check", 4, x, () -> x.grow(77));
        dueRefused("the same", 4, x, () -> x.grow(6));
        RestMill y = made("moduli 7 19 25 47 79;");
        dueRefused("WHOLE too great", 4, y, () -> y.grow(81));
        RestMill z = made("moduli 41 49 61 85;");
        due("WHOLE just fits", z.grow(96), 0);
        due("WHOLE", z.bound(1), 999999840);
    }

    private static void droppedModuli() {
        RestMill x = made("moduli 2 3 5 7 11 13; checks 2;");
        due("drop(0)", x.drop(0), 0);
        due("the others", printedModuli(x), "3 5 7 11? 13?");
        due("drop(1)", x.drop(1), 0);
        due("the others then", printedModuli(x), "3 7 11? 13?");
        due("CHECKS stay", x.count(1), 2);
        due("drop(2) of a check", x.drop(2), 0);
        due("one fewer", printedModuli(x), "3 7 13?");
        due("CHECKS", x.count(1), 1);
        due("drop(2) of the last check", x.drop(2), 0);
        due("none is left", printedModuli(x), "3 7");
        due("CHECKS then", x.count(1), 0);
        due("the acts", x.account(0), 4);
        due("the changes", x.count(6), 4);
        RestMill y = with(ONE_CHECK, 38, -38);
        due("drop() of a base", y.drop(1), 0);
        due("RANGE", y.bound(0), 7);
        due("the numbers", numbersOf(y), "38 -38 0 0 0 0 0 0 ");
        due("the rests", restsOf(y, 1), "4 1 ");
    }

    private static void numbersOneLess() {
        RestMill x = with("moduli 2 3 5 7;", 1, 2, 3, 4);
        due("drop(0)", x.drop(0), 0);
        due("modulus(0)", x.modulus(0), 3);
        due("modulus(2)", x.modulus(2), 7);
        dueThrow("modulus(3)", INDEX, () -> x.modulus(3));
        due("the rests of 4", restsOf(x, 3), "1 4 4 ");
        due("drop(2), the last", x.drop(2), 0);
        due("modulus(0) then", x.modulus(0), 3);
        due("modulus(1) then", x.modulus(1), 5);
        dueThrow("modulus(2) then", INDEX, () -> x.modulus(2));
        dueThrow("drop(2) then", INDEX, () -> x.drop(2));
    }

    private static void dropRefused() {
        RestMill two = made("moduli 7 11;");
        dueRefused("one of two", 4, two, () -> two.drop(1));
        RestMill base = made("moduli 7 11 13; checks 2;");
        dueRefused("the only base", 4, base, () -> base.drop(0));
        due("a check beside it", base.drop(2), 0);
        RestMill both = made("moduli 7 11; checks 1;");
        dueRefused("a base of two moduli", 4, both, () -> both.drop(0));
        dueRefused("a check of two moduli", 4, both, () -> both.drop(1));
    }

    private static void dropOfNumbersThatAreTold() {
        int[] odd = {38, -38, 39, -39};
        for (int number : odd) {
            RestMill x = with(NO_CHECK, 0, 0, 0, 0, 0, 0, 0, number);
            boolean isTold = number == 38 || number == -38;
            due("drop() of 13 with " + number, x.drop(2), isTold ? 0 : 4);
            due("its NUMBER", x.number(7), number);
            due("the moduli", x.count(0), isTold ? 2 : 3);
        }
        int[] even = {5, -6, 6, -7};
        for (int number : even) {
            RestMill x = with("moduli 4 3 5;", number);
            boolean isTold = number == 5 || number == -6;
            due("drop() of 5 with " + number, x.drop(2), isTold ? 0 : 4);
            due("its NUMBER", x.number(0), number);
        }
    }

    private static void strictSet() {
        RestMill x = made(ONE_CHECK);
        due("setStrict(0)", x.setStrict(0), 0);
        due("setStrict(1)", x.setStrict(1), 0);
        due("setStrict(1) again", x.setStrict(1), 1);
        due("setStrict(0) then", x.setStrict(0), 1);
        due("STRICT", x.count(2), 0);
        due("the changes", x.count(6), 4);
        due("no act", accountsOf(x), "0 0 0 0 0 0 0 0 ");
    }

    private interface OfMill {
        long answer(RestMill x);
    }

    /** A change is one more that can be undone; an act that is done is one more of the account 0. */
    private static void dueChange(int acts, RestMill x, OfMill call) {
        String state = stateOf(x);
        int changes = x.count(6);
        call.answer(x);
        due("changes", x.count(6), changes + 1);
        due("the accounts", accountsOf(x), acts + " 0 0 0 0 0 0 0 ");
        due("undo()", x.undo(), changes);
        due("the state then", stateOf(x), state);
        due("the accounts then", accountsOf(x), "0 0 0 0 0 0 0 0 ");
    }

    private static RestMill withUnsoundH() {
        RestMill x = made("moduli 7 11 13; checks 1; set a 38; set b 1;");
        x.hurt(7, 0, 1);
        return x;
    }

    private static void dueNoChangeIfRefused(int reason, OfMill call) {
        RestMill x = made("moduli 7 11 13; checks 1; strict 1; set a 38; set b 1;");
        x.hurt(7, 0, 1);
        dueRefused("a refused one", reason, x, () -> call.answer(x));
        due("undo() of the one ahead of it", x.undo(), 0);
        due("the number", x.number(7), 0);
    }

    // Promises 43 to 48

    private static void undoOfNone() {
        RestMill x = made(ONE_CHECK);
        dueThrow("undo() at first", ELEMENT, () -> x.undo());
        x.set(0, 39);
        dueThrow("undo() of what was refused", ELEMENT, () -> x.undo());
        x.set(0, 1);
        due("undo()", x.undo(), 0);
        dueThrow("undo() again", ELEMENT, () -> x.undo());
        load(x, NO_CHECK);
        dueThrow("undo() after a load", ELEMENT, () -> x.undo());
    }

    private static void undoStays() {
        RestMill x = made(ONE_CHECK);
        x.set(0, 5);
        play(x, "a = 1; &");
        x.printRegister(0);
        feed(x, "b = 1;");
        due("undo()", x.undo(), 0);
        due("the output", outputOf(x), "a=(5,5,5)=5");
        due("the error", x.errorCode(), RestMill.SYNTAX);
        due("its offset", x.errorOffset(), 7);
        dueLength("the input buffer", x, 6);
        due("is played", x.playScript(), 1);
    }

    private static void undoneLatest() {
        RestMill x = made(ONE_CHECK);
        x.grow(2);
        x.set(0, 5);
        x.setStrict(1);
        x.drop(1);
        due("the moduli", moduliOf(x), "7 2 13 ");
        due("undo() of drop()", x.undo(), 3);
        due("the moduli", moduliOf(x), "7 11 2 13 ");
        due("undo() of setStrict()", x.undo(), 2);
        due("STRICT", x.count(2), 0);
        due("undo() of set()", x.undo(), 1);
        due("the number", x.number(0), 0);
        due("undo() of grow()", x.undo(), 0);
        due("the moduli", moduliOf(x), "7 11 13 ");
        due("CHECKS", x.count(1), 1);
        due("the weights", x.weight(2), 924);
    }

    private static void printedRegisters() {
        RestMill x = with(ONE_CHECK, 0, -10, 38, -38, 1);
        due("0", printedRegister(x, 0), "a=(0,0,0)=0");
        due("below 0", printedRegister(x, 1), "b=(4,1,3)=-10");
        due("HALF", printedRegister(x, 2), "c=(3,5,12)=38");
        due("-HALF", printedRegister(x, 3), "d=(4,6,1)=-38");
        x.operate(0, 5, 2, 4);
        x.operate(1, 7, 3, 4);
        due("HALF + 1", printedRegister(x, 5), "f=(4,6,0)=39!");
        due("-HALF - 1", printedRegister(x, 7), "h=(3,5,0)=-39!");
        due("the output stays", outputOf(x), "h=(3,5,0)=-39!");
        RestMill two = made("moduli 2 97;");
        due("two rests", printedRegister(two, 6), "g=(0,0)=0");
        RestMill great = with("moduli 3 32 41 49 61 85;", -499999919);
        due("the longest", printedRegister(great, 0), "a=(1,17,1,1,1,1)=-499999919");
    }

    private static void printedModuliOfAll() {
        due("none is a check", printedModuli(made("moduli 7 11;")), "7 11");
        due("one is", printedModuli(made("moduli 7 11; checks 1;")), "7 11?");
        due("two are", printedModuli(made("moduli 7 11 13; checks 2;")), "7 11? 13?");
        due("six", printedModuli(made("moduli 2 3 5 7 11 13; checks 2;")), "2 3 5 7 11? 13?");
        RestMill x = made("moduli 2 3 5 7 11 13; checks 2;");
        x.printModuli();
        x.drop(0);
        due("in place of what it had", printedModuli(x), "3 5 7 11? 13?");
        due("a shorter one in its place", printedRegister(made("moduli 2 3;"), 0), "a=(0,0)=0");
    }

    private static void outputBytes() {
        RestMill x = made("moduli 7 11;");
        due("outputByte(0) of none", x.outputByte(0), -1);
        due("outputByte(-1) of none", x.outputByte(-1), -1);
        due("printModuli()", x.printModuli(), 4);
        due("outputByte(-1)", x.outputByte(-1), -1);
        due("outputByte(0)", x.outputByte(0), '7');
        due("outputByte(3)", x.outputByte(3), '1');
        due("outputByte(4)", x.outputByte(4), -1);
        due("outputByte() of the least int", x.outputByte(LEAST), -1);
        due("outputByte() of the greatest int", x.outputByte(GREATEST), -1);
    }

    private static void savedState() {
        RestMill x = made("moduli 7 11; checks 1;");
        due("two moduli", x.saveState(), 2);
        x.grow(2);
        x.grow(3);
        x.grow(5);
        x.grow(13);
        due("six moduli", x.saveState(), 6);
        due("no change", x.count(6), 4);
        due("no act", x.account(0), 4);
        x.undo();
        due("in place of the earlier one", x.restoreState(), 6);
    }

    private static void savedEverything() {
        RestMill x = made("moduli 7 11 13; checks 1; strict 1; set a 5;");
        x.set(1, 6);
        x.set(1, 39);
        x.hurt(2, 2, 1);
        x.saveState();
        String saved = moduliOf(x) + numbersOf(x) + accountsOf(x) + x.count(1) + x.count(2);
        x.setStrict(0);
        x.grow(2);
        x.drop(0);
        x.set(0, 1);
        x.mend(7);
        due("restoreState()", x.restoreState(), 3);
        due("the state", moduliOf(x) + numbersOf(x) + accountsOf(x) + x.count(1) + x.count(2), saved);
        due("the weights", x.weight(0), 715);
    }

    private static void notSaved() {
        RestMill x = made(ONE_CHECK);
        x.set(0, 5);
        x.saveState();
        play(x, "a = 1; &");
        x.printRegister(0);
        feed(x, "b = 1;");
        due("restoreState()", x.restoreState(), 3);
        due("the output", outputOf(x), "a=(5,5,5)=5");
        due("the error", x.errorOffset(), 7);
        dueLength("the input buffer", x, 6);
        due("the changes", x.count(6), 0);
        due("saveState()", x.saveState(), 3);
        x.set(0, 7);
        due("saveState() keeps the changes", x.count(6), 1);
        x.saveState();
        due("so that they can be undone", x.undo(), 0);
        due("the number", x.number(0), 5);
        x.restoreState();
        due("the number that was saved", x.number(0), 7);
    }

    private static void restoredStays() {
        RestMill x = made(ONE_CHECK);
        dueThrow("restoreState() of none", ELEMENT, () -> x.restoreState());
        x.set(0, 5);
        x.saveState();
        for (int k = 0; k < 3; k++) {
            x.set(0, k);
            due("restoreState()", x.restoreState(), 3);
            due("the number", x.number(0), 5);
            dueThrow("undo() then", ELEMENT, () -> x.undo());
        }
        load(x, "moduli 7 7;");
        due("after a text with an error", x.restoreState(), 3);
        load(x, NO_CHECK);
        dueThrow("after a load", ELEMENT, () -> x.restoreState());
    }

    private static void nothingToUndoThen() {
        RestMill x = made(ONE_CHECK);
        x.saveState();
        for (int k = 1; k <= 9; k++) {
            x.set(0, k);
        }
        x.restoreState();
        due("changes", x.count(6), 0);
        dueThrow("undo()", ELEMENT, () -> x.undo());
        x.set(0, 20);
        due("undo() of a new one", x.undo(), 0);
        due("the number", x.number(0), 0);
        dueThrow("undo() of an older one", ELEMENT, () -> x.undo());
    }

    private static void testModuli() {
        sentence("promise 1", "Creates a mill as by the text \"moduli 7 11 13; checks 1;\"", PromiseEdgesTest::newObject);
        sentence("promise 1", "with an empty input buffer", PromiseEdgesTest::emptyBuffer);
        sentence("promise 1", "Creates a mill", PromiseEdgesTest::objectsOfTheirOwn);
        sentence("promise 8", "Returns a number of the mill", PromiseEdgesTest::countsOfNewObject);
        sentence("promise 8", "0 moduli, 1 CHECKS, 2 STRICT", PromiseEdgesTest::countsOfModuli);
        sentence("promise 8", "3 sound registers", PromiseEdgesTest::countsOfSoundOnes);
        sentence("promise 8", "4 registers whose NUMBER is 0, 5 registers whose NUMBER is below 0", PromiseEdgesTest::countsOfSigns);
        sentence("promise 8", "6 changes that can be undone", PromiseEdgesTest::countsOfChanges);
        sentence("promise 9", "its number, 0 to 7", PromiseEdgesTest::accountsOfNewObject);
        sentence("promise 10", "0 RANGE, 1 WHOLE, 2 HALF", PromiseEdgesTest::boundsAsked);
        sentence("promise 11", "Returns a modulus", PromiseEdgesTest::moduliAsked);
        sentence("promise 12", "the number, from 1 to that other one less 1", PromiseEdgesTest::inverses);
        sentence("promise 12", "0 if both are the same", PromiseEdgesTest::inverseOfTheSame);
        sentence("promise 13", "the number from 0 to WHOLE less 1 that has the rest 1 for a modulus", PromiseEdgesTest::weights);
    }

    private static void testAnswers() {
        sentence("promise 14", "Returns a rest", PromiseEdgesTest::restsAsked);
        sentence("promise 15", "Returns a digit (section 2)", PromiseEdgesTest::digitsAsked);
        sentence("promise 16", "Returns a part (section 2)", PromiseEdgesTest::partsAsked);
        sentence("promise 17", "Returns RANK of a register (section 2)", PromiseEdgesTest::ranksAsked);
        sentence("promise 18", "Returns VALUE of a register", PromiseEdgesTest::valuesAsked);
        sentence("promise 19", "Returns NUMBER of a register", PromiseEdgesTest::numbersAsked);
        sentence("promise 20", "Tells whether a register is sound", PromiseEdgesTest::soundAsked);
        sentence("promise 21", "Returns -1 if the first one is less, 0 if both are alike, 1 if it is greater", PromiseEdgesTest::compared);
        sentence("promise 22", "`by`: 2 to 9999", PromiseEdgesTest::extendedBy);
        sentence("promise 22", "Returns the rest, 0 to by less 1", PromiseEdgesTest::extendedRests);
        sentence("promise 23", "Returns the sum (always 0)", PromiseEdgesTest::gapIsZero);
        sentence("promise 24", "Returns in how many rests two registers are different", PromiseEdgesTest::distances);
        sentence("promise 25", "gives as a number without any moduli", PromiseEdgesTest::exactNumbers);
        sentence("promise 25", "Returns the exact number", PromiseEdgesTest::exactWithZero);
        sentence("promise 26", "Returns 1 or 2 if it would be refused for this reason", PromiseEdgesTest::whyOfRefusals);
        sentence("promise 26", "otherwise 0 if NUMBER of the result would be exact(), 6 if it would not", PromiseEdgesTest::whyOfResults);
        sentence("promise 27", "Returns a set: bit k for the modulus k", PromiseEdgesTest::faultSets);
        sentence("promise 28", "`rest`: 0 to the modulus less 1", PromiseEdgesTest::numbersWithOtherRests);
        sentence("promise 29", "Finds the least number that could be a modulus besides all others", PromiseEdgesTest::leastNextModulus);
        sentence("promise 29", "NONE if there is none, or there are 6 moduli", PromiseEdgesTest::noNextModulus);
        sentence("promise 30", "Returns the moduli that could be dropped one by one", PromiseEdgesTest::spareModuli);
        sentence("promise 30", "those for which drop() would not be refused", PromiseEdgesTest::spareAsDrop);
        sentence("promise 31", "the smallest one on a tie", PromiseEdgesTest::greatestRegister);
        sentence("promise 32", "their sum and 8, both converted to double and divided", PromiseEdgesTest::means);
        sentence("promise 33", "both numbers converted to float and divided", PromiseEdgesTest::zeroShares);
    }

    private static void testChanges() {
        sentence("promise 34", "`number`: -1000000000 to 1000000000", PromiseEdgesTest::setNumbers);
        sentence("promise 35", "Sets a rest of a register, whatever becomes of its NUMBER", PromiseEdgesTest::hurtRests);
        sentence("promise 35", "Returns the rest before", PromiseEdgesTest::restsBefore);
        sentence("promise 36", "its result is laid into a register", PromiseEdgesTest::operations);
        sentence("promise 36", "Returns 0; the reason (1, 2) if it is refused", PromiseEdgesTest::operationsRefused);
        sentence("promise 37", "its NUMBER becomes that by the modulus, rounded down", PromiseEdgesTest::scaled);
        sentence("promise 38", "Returns 0; the reason (3) if it is refused: it is sound, or has no faults", PromiseEdgesTest::mended);
        sentence("promise 39", "Returns compare() of both then", PromiseEdgesTest::swapped);
        sentence("promise 40", "as the last one of the bases (ahead of all checks)", PromiseEdgesTest::grownModuli);
        sentence("promise 40", "each register keeps its NUMBER", PromiseEdgesTest::grownKeepsNumbers);
        sentence("promise 40", "there are 6 moduli, it has a common divisor above 1 with one of them, or WHOLE would be too great",
                PromiseEdgesTest::growRefused);
        sentence("promise 41", "A check that is dropped is one fewer of CHECKS", PromiseEdgesTest::droppedModuli);
        sentence("promise 41", "the ones behind it have numbers that are 1 less", PromiseEdgesTest::numbersOneLess);
        sentence("promise 41", "there are 2 moduli, it is the only base", PromiseEdgesTest::dropRefused);
        sentence("promise 41", "it would not be NUMBER of the rests that are left", PromiseEdgesTest::dropOfNumbersThatAreTold);
        sentence("promise 42", "Returns STRICT before", PromiseEdgesTest::strictSet);
    }

    private static void testChangesAndActs() {
        String both = "This is a change, and an act";
        String noAct = "This is a change, but no act";
        sentence("promise 34", both, () -> dueChange(1, withUnsoundH(), x -> x.set(0, 38)));
        sentence("promise 35", noAct, () -> dueChange(0, withUnsoundH(), x -> x.hurt(0, 0, 3)));
        sentence("promise 36", both, () -> dueChange(1, withUnsoundH(), x -> x.operate(1, 0, 0, 1)));
        sentence("promise 37", both, () -> dueChange(1, withUnsoundH(), x -> x.scale(0, 0)));
        sentence("promise 38", both, () -> dueChange(1, withUnsoundH(), x -> x.mend(7)));
        sentence("promise 39", noAct, () -> dueChange(0, withUnsoundH(), x -> x.swap(0, 0)));
        sentence("promise 40", both, () -> dueChange(1, withUnsoundH(), x -> x.grow(2)));
        sentence("promise 41", both, () -> dueChange(1, made("moduli 7 11 13; set a 38;"), x -> x.drop(2)));
        sentence("promise 42", noAct, () -> dueChange(0, withUnsoundH(), x -> x.setStrict(0)));
        sentence("promise 34", "5 if it is refused for this reason", () -> dueNoChangeIfRefused(5, x -> x.set(0, -39)));
        sentence("promise 36", "the reason (1, 2) if it is refused", () -> {
            dueNoChangeIfRefused(1, x -> x.operate(3, 0, 0, 2));
            dueNoChangeIfRefused(2, x -> x.operate(0, 0, 0, 1));
        });
        sentence("promise 37", "Returns 0; the reason (2) if it is refused", PromiseEdgesTest::scaleRefused);
        sentence("promise 38", "the reason (3) if it is refused", () -> dueNoChangeIfRefused(3, x -> x.mend(0)));
        sentence("promise 40", "the reason (4) if it is refused", () -> dueNoChangeIfRefused(4, x -> x.grow(22)));
        sentence("promise 41", "the reason (4) if it is refused", () -> dueNoChangeIfRefused(4, x -> x.drop(2)));
    }

    private static void testUndoAndOutput() {
        sentence("promise 43", "Throws `NoSuchElementException` if there is none", PromiseEdgesTest::undoOfNone);
        sentence("promise 43", "The input buffer, the error and the output stay", PromiseEdgesTest::undoStays);
        sentence("promise 43", "Undoes the latest change that was not undone", PromiseEdgesTest::undoneLatest);
        sentence("promise 44", "(with a hyphen ahead if it is below 0); an exclamation mark if it is not sound", PromiseEdgesTest::printedRegisters);
        sentence("promise 45", "with a space between two; a question mark behind each check", PromiseEdgesTest::printedModuliOfAll);
        sentence("promise 46", "Returns the byte; -1 if there is no such byte", PromiseEdgesTest::outputBytes);
        sentence("promise 47", "in place of an earlier saved state", PromiseEdgesTest::savedState);
        sentence("promise 47", "Saves everything but", PromiseEdgesTest::savedEverything);
        sentence("promise 47", "the input buffer, the error, the output and the changes that can be undone", PromiseEdgesTest::notSaved);
        sentence("promise 48", "Restores the saved state, which stays saved", PromiseEdgesTest::restoredStays);
        sentence("promise 48", "Nothing can be undone then", PromiseEdgesTest::nothingToUndoThen);
    }

    public static void main(String[] args) {
        begin(args);
        testModuli();
        testAnswers();
        testChanges();
        testChangesAndActs();
        testUndoAndOutput();
        end();
    }
}
