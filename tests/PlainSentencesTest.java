import java.util.Arrays;

/**
 * The sentences that name no boundary case. What is due is worked out by search: all rows of rests
 * of small mills are gone through.
 */
public final class PlainSentencesTest extends Sentences {
    /** CHECKS, then the moduli. */
    private static final int[][] PLANS = {
        {0, 4, 3, 5}, {1, 2, 9, 5}, {1, 7, 5}, {2, 2, 3, 5, 7}, {0, 3, 2}, {1, 2, 3}, {2, 3, 4, 5}, {1, 5, 2, 3, 7},
    };
    private static final int GREATEST_OF_PAIRS = 60;

    interface OfOne {
        void ask(Plan plan, RestMill x, long value);
    }

    interface OfTwo {
        void ask(Plan plan, RestMill x, long first, long second);
    }

    /** What the document says of moduli, and of values by them, in the plainest form. */
    private static final class Plan {
        final int[] moduli;
        final int checks;
        final long whole;
        final long range;

        Plan(int[] row) {
            checks = row[0];
            int size = row.length - 1;
            moduli = Arrays.copyOfRange(row, 1, row.length);
            long all = 1;
            long bases = 1;
            for (int k = 0; k < size; k++) {
                all *= moduli[k];
                bases *= k < size - checks ? moduli[k] : 1;
            }
            whole = all;
            range = bases;
        }

        String text() {
            StringBuilder text = new StringBuilder("moduli");
            for (int modulus : moduli) {
                text.append(' ').append(modulus);
            }
            return text.append("; checks ").append(checks).append(';').toString();
        }

        long half() {
            return (range - 1) / 2;
        }

        long number(long value) {
            return value <= (whole - 1) / 2 ? value : value - whole;
        }

        boolean sound(long value) {
            return number(value) >= -half() && number(value) <= half();
        }

        /** The only value with these rests, found by trying all. */
        long value(int[] rests) {
            for (long value = 0; value < whole; value++) {
                boolean isIt = true;
                for (int k = 0; k < moduli.length; k++) {
                    isIt &= value % moduli[k] == rests[k];
                }
                if (isIt) {
                    return value;
                }
            }
            throw new IllegalStateException("no value has these rests");
        }

        int[] rests(long value) {
            int[] rests = new int[moduli.length];
            for (int k = 0; k < moduli.length; k++) {
                rests[k] = (int) (value % moduli[k]);
            }
            return rests;
        }

        long valueWith(long value, int modulus, int rest) {
            int[] rests = rests(value);
            rests[modulus] = rest;
            return value(rests);
        }

        int leastSoundRest(long value, int modulus) {
            for (int rest = 0; rest < moduli[modulus]; rest++) {
                if (sound(valueWith(value, modulus, rest))) {
                    return rest;
                }
            }
            return -1;
        }

        int faults(long value) {
            int set = 0;
            for (int k = 0; k < moduli.length && !sound(value); k++) {
                set |= leastSoundRest(value, k) >= 0 ? 1 << k : 0;
            }
            return set;
        }

        /** By the rests of both for sum, difference and product; by both NUMBERs for the others. */
        long result(int operation, long first, long second) {
            long quotient = operation < 3 ? 0 : floor(number(first), number(second));
            if (operation >= 3) {
                long number = operation == 3 ? quotient : number(first) - quotient * number(second);
                return ((number % whole) + whole) % whole;
            }
            int[] rests = new int[moduli.length];
            for (int k = 0; k < moduli.length; k++) {
                int a = (int) (first % moduli[k]);
                int b = (int) (second % moduli[k]);
                int rest = operation == 0 ? a + b : operation == 1 ? a - b + moduli[k] : a * b;
                rests[k] = rest % moduli[k];
            }
            return value(rests);
        }
    }

    /** The greatest whole number that is at most first by second. */
    private static long floor(long first, long second) {
        long quotient = first / second;
        boolean isTooGreat = second > 0 ? quotient * second > first : quotient * second < first;
        return isTooGreat ? quotient - 1 : quotient;
    }

    private static void hold(Plan plan, RestMill x, int register, long value) {
        int[] rests = plan.rests(value);
        for (int k = 0; k < rests.length; k++) {
            x.hurt(register, k, rests[k]);
        }
    }

    private static RestMill holding(Plan plan, long first, long second) {
        RestMill x = made(plan.text());
        hold(plan, x, 0, first);
        hold(plan, x, 1, second);
        return x;
    }

    private static void forValues(OfOne test) {
        for (int[] row : PLANS) {
            Plan plan = new Plan(row);
            for (long value = 0; value < plan.whole; value++) {
                test.ask(plan, holding(plan, value, 0), value);
            }
        }
    }

    private static void forPairs(OfTwo test) {
        for (int[] row : PLANS) {
            Plan plan = new Plan(row);
            for (long first = 0; first < plan.whole && plan.whole <= GREATEST_OF_PAIRS; first++) {
                for (long second = 0; second < plan.whole; second++) {
                    test.ask(plan, holding(plan, first, second), first, second);
                }
            }
        }
    }

    /** Eight registers that are all different, and some of them not sound. */
    private static RestMill full(Plan plan, long from) {
        RestMill x = made(plan.text());
        for (int register = 0; register < REGISTERS; register++) {
            hold(plan, x, register, valueIn(plan, register, from));
        }
        return x;
    }

    private static long valueIn(Plan plan, int register, long from) {
        return (from + register * register * 7L + register) % plan.whole;
    }

    private static String told(Plan plan, long value) {
        return plan.text() + " VALUE " + value;
    }

    private static String told(Plan plan, long first, long second) {
        return plan.text() + " VALUEs " + first + ", " + second;
    }

    // The terms

    private static void givenBack() {
        forValues((plan, x, value) -> {
            due(told(plan, value) + ", value(0)", x.value(0), value);
            due(told(plan, value) + ", number(0)", x.number(0), plan.number(value));
        });
    }

    private static void multiples() {
        for (int[] row : PLANS) {
            Plan plan = new Plan(row);
            for (long number = -plan.half(); number <= plan.half(); number++) {
                RestMill x = made(plan.text());
                x.set(3, (int) number);
                for (int k = 0; k < plan.moduli.length; k++) {
                    due(plan.text() + " " + number + " by the modulus " + k, (number - x.rest(3, k)) % plan.moduli[k], 0);
                }
            }
        }
    }

    private static void wholeNumbers() {
        RestMill x = made("moduli 2 9 5; set a 7; set b 2;");
        due("7 by 2", x.exact(3, 0, 1), 3);
        due("7 by 2 is laid into c", x.operate(3, 2, 0, 1), 0);
        due("as a whole number", x.number(2), 3);
        due("7 by the modulus 2", x.scale(0, 0), 0);
        due("is a whole number too", x.number(0), 3);
    }

    private static void digitsOfAll() {
        forValues((plan, x, value) -> {
            long left = value;
            for (int k = 0; k < plan.moduli.length; k++) {
                due(told(plan, value) + ", digit(0, " + k + ")", x.digit(0, k), left % plan.moduli[k]);
                left /= plan.moduli[k];
            }
        });
        RestMill six = made("moduli 2 3 5 7 11 13;");
        six.set(0, 15014);
        long sum = six.digit(0, 0) + 2 * six.digit(0, 1) + 6 * six.digit(0, 2) + 30 * six.digit(0, 3)
                + 210 * six.digit(0, 4) + 2310 * six.digit(0, 5);
        due("six digits together", sum, 15014);
    }

    private static void partsOfAll() {
        forValues((plan, x, value) -> {
            long sum = 0;
            for (int k = 0; k < plan.moduli.length; k++) {
                int[] rests = new int[plan.moduli.length];
                rests[k] = (int) (value % plan.moduli[k]);
                long part = plan.value(rests);
                due(told(plan, value) + ", part(0, " + k + ")", x.part(0, k), part);
                sum += part;
            }
            due(told(plan, value) + ", rank(0)", x.rank(0), (sum - value) / plan.whole);
        });
    }

    private static void dueOperations(int least, int greatest) {
        forPairs((plan, x, first, second) -> {
            for (int operation = least; operation <= greatest; operation++) {
                if (operation >= 3 && second == 0) {
                    continue;
                }
                String what = told(plan, first, second) + ", operation " + operation;
                long result = plan.result(operation, first, second);
                due(what, x.operate(operation, 5, 0, 1), 0);
                for (int k = 0; k < plan.moduli.length; k++) {
                    due(what + ", rest " + k, x.rest(5, k), result % plan.moduli[k]);
                }
                due(what + ", VALUE", x.value(5), result);
                due(what + ", NUMBER", x.number(5), plan.number(result));
                due(what + ", whether it is sound", x.isSound(5), plan.sound(result));
            }
        });
    }

    private static void reasons() {
        RestMill x = made("moduli 7 11 13; checks 1; strict 1; set a 38;");
        due("1 a divisor is 0", x.operate(3, 0, 0, 1), 1);
        due("2 a result is not sound", x.operate(0, 0, 0, 0), 2);
        due("3 there is nothing to mend", x.mend(0), 3);
        due("4 moduli cannot be so", x.grow(14), 4);
        due("5 a number does not fit", x.set(0, 39), 5);
        due("the accounts", accountsOf(x), "0 1 1 1 1 1 0 0 ");
    }

    private static void faultsOfAll() {
        forValues((plan, x, value) -> due(told(plan, value) + ", faults(0)", x.faults(0), plan.faults(value)));
    }

    private static void mendOfAll() {
        forValues((plan, x, value) -> {
            int faults = plan.faults(value);
            due(told(plan, value) + ", mend(0)", x.mend(0), faults == 0 ? 3 : 0);
            long want = value;
            if (faults != 0) {
                int modulus = Integer.numberOfTrailingZeros(faults);
                want = plan.valueWith(value, modulus, plan.leastSoundRest(value, modulus));
            }
            due(told(plan, value) + " then", x.value(0), want);
        });
    }

    // Section 4

    private static void numbersInTexts() {
        RestMill x = made("moduli 09 2 7; checks 01; strict 1; set a 08; set b - 000000003;");
        due("the moduli", moduliOf(x), "9 2 7 ");
        due("CHECKS", x.count(1), 1);
        due("STRICT", x.count(2), 1);
        due("the numbers", numbersOf(x), "8 -3 0 0 0 0 0 0 ");
        due("a script", play(x, "strict 0; c = 8; d = a - 7 * 002;"), 3);
        due("the numbers then", numbersOf(x), "8 -3 8 -6 0 0 0 0 ");
    }

    private static void partsThatMayBeLeftOut() {
        for (int choice = 0; choice < 8; choice++) {
            boolean hasChecks = (choice & 1) != 0;
            boolean hasStrict = (choice & 2) != 0;
            boolean hasSet = (choice & 4) != 0;
            String text = "moduli 5 7 3;" + (hasChecks ? "checks 2;" : "") + (hasStrict ? "strict 1;" : "")
                    + (hasSet ? "set g 2;set a - 1;" : "");
            RestMill x = new RestMill();
            due("load of '" + text + "'", load(x, text), 3);
            due("CHECKS of '" + text + "'", x.count(1), hasChecks ? 2 : 0);
            due("STRICT of '" + text + "'", x.count(2), hasStrict ? 1 : 0);
            due("the numbers of '" + text + "'", numbersOf(x), hasSet ? "-1 0 0 0 0 0 2 0 " : "0 0 0 0 0 0 0 0 ");
        }
        dueSetupError("moduli 5 7; set a 1; checks 1;", RestMill.SYNTAX, 21);
        dueSetupError("checks 1; moduli 5 7;", RestMill.SYNTAX, 0);
    }

    private static void fromLeftToRight() {
        dueSetupError("moduli 5 98; checks 9;", RestMill.OUT_OF_RANGE, 9);
        dueSetupError("moduli 5 7; checks 9; strict 9; set x", RestMill.OUT_OF_RANGE, 19);
        dueSetupError("moduli 5 7; set x 99; & moduli", RestMill.SYNTAX, 16);
        dueScriptError("a = 99; b = ;", RestMill.OUT_OF_RANGE, 4);
        dueScriptError("a = ; b = 99;", RestMill.SYNTAX, 4);
        dueScriptError("a = 1; strict 7; scale a 9;", RestMill.OUT_OF_RANGE, 14);
        dueScriptError("a = (((((((1; b = 99;", RestMill.TOO_MANY, 10);
    }

    private static void constants() {
        due("NO_ERROR", RestMill.NO_ERROR, 0);
        RestMill x = new RestMill();
        due("play", play(x, "a = 1;"), 1);
        due("errorCode()", x.errorCode(), RestMill.NO_ERROR);
    }

    private static void constantOf(int constant, int want, String setup) {
        due("the constant", constant, want);
        RestMill x = new RestMill();
        due("load of '" + setup + "'", load(x, setup), -1);
        due("errorCode() of '" + setup + "'", x.errorCode(), want);
    }

    private static void constantTooMany() {
        constantOf(RestMill.TOO_MANY, 5, "moduli 2 3 5 7 11 13 17;");
        dueScriptError("a=-------1;", 5, 8);
        dueScriptError("mend a;".repeat(20) + "mend a;", 5, 140);
    }

    // Promises 2 to 7

    /** All bytes are spaces but one, which belongs to no token: the error tells where it came to lie. */
    private static void bytesOf(int parameter) {
        for (int at = 0; at < 4; at++) {
            int[] row = new int[5];
            Arrays.fill(row, 0x20202020);
            row[parameter] ^= ('&' ^ ' ') << 24 - 8 * at;
            RestMill x = new RestMill();
            due("appendInput()", x.appendInput(row[0], row[1], row[2], row[3], row[4]), 20);
            due("playScript()", x.playScript(), -1);
            due("where byte " + at + " of the parameter " + parameter + " lies", x.errorOffset(), 4 * parameter + at);
        }
    }

    private static void truncates() {
        RestMill x = new RestMill();
        feed(x, "a = 1; b = 2; c = 3; ");
        due("truncateInput(14)", x.truncateInput(14), true);
        dueLength("the new length", x, 14);
        due("playScript()", x.playScript(), 2);
        due("the numbers", numbersOf(x), "1 2 0 0 0 0 0 0 ");
    }

    private static void loads() {
        RestMill x = new RestMill();
        feed(x, "moduli 9 8 7; checks 1; set c 5; set d - 6;");
        due("loadMill()", x.loadMill(), 3);
        due("the moduli", moduliOf(x), "9 8 7 ");
        due("CHECKS", x.count(1), 1);
        due("the numbers", numbersOf(x), "0 0 5 -6 0 0 0 0 ");
        due("loadMill() of the buffer that is empty now", x.loadMill(), -1);
        due("the numbers still", numbersOf(x), "0 0 5 -6 0 0 0 0 ");
    }

    private static void playsWithoutError() {
        RestMill x = new RestMill();
        due("a script with an error at its end", play(x, "a = 1; b = 2; c = 3"), -1);
        due("none of it was done", numbersOf(x), "0 0 0 0 0 0 0 0 ");
        due("the same one without", play(x, "a = 1; b = 2; c = 3;"), 3);
        due("all of it was done", numbersOf(x), "1 2 3 0 0 0 0 0 ");
    }

    private static void dueError(RestMill x, int code, int offset) {
        due("errorCode()", x.errorCode(), code);
        due("errorOffset()", x.errorOffset(), offset);
    }

    private static void errorsOfLatestCall() {
        RestMill x = new RestMill();
        dueError(x, RestMill.NO_ERROR, -1);
        load(x, "moduli 6 9;");
        dueError(x, RestMill.COMMON, 9);
        play(x, "a = 99;");
        dueError(x, RestMill.OUT_OF_RANGE, 4);
        load(x, "moduli 5 7; set a 1; set a 1;");
        dueError(x, RestMill.REPEATED, 25);
        feed(x, "a = 1;");
        dueError(x, RestMill.REPEATED, 25);
        x.playScript();
        dueError(x, RestMill.NO_ERROR, -1);
        play(x, "a");
        dueError(x, RestMill.SYNTAX, 1);
        x.set(0, 1);
        x.printModuli();
        dueError(x, RestMill.SYNTAX, 1);
        load(x, "moduli 5 7;");
        dueError(x, RestMill.NO_ERROR, -1);
        load(x, "moduli 2 3 5 7 11 13 17;");
        dueError(x, RestMill.TOO_MANY, 21);
    }

    // Promises 8 to 13

    private static void countsOfAll() {
        for (int[] row : PLANS) {
            Plan plan = new Plan(row);
            for (long from = 0; from < plan.whole; from++) {
                RestMill x = full(plan, from);
                int[] counts = {plan.moduli.length, plan.checks, 0, 0, 0, 0, 8};
                for (int register = 0; register < REGISTERS; register++) {
                    long value = valueIn(plan, register, from);
                    counts[3] += plan.sound(value) ? 1 : 0;
                    counts[4] += value == 0 ? 1 : 0;
                    counts[5] += plan.number(value) < 0 ? 1 : 0;
                }
                for (int what = 0; what < counts.length; what++) {
                    due(told(plan, from) + ", count(" + what + ")", x.count(what), counts[what]);
                }
            }
        }
    }

    private static void sumsSoFar() {
        RestMill x = made("moduli 7 11 13; checks 1;");
        for (int round = 1; round <= 9; round++) {
            x.set(0, 30);
            x.operate(0, 1, 0, 0);
            x.operate(3, 2, 0, 7);
            x.mend(0);
            x.grow(7);
            x.set(0, 39);
            play(x, "swap c d; strict 1; e = 38 + 38;");
            play(x, "strict 0;");
            String want = 2 * round + " " + round + " " + round + " " + round + " " + round + " " + round + " "
                    + round + " " + 3 * round + " ";
            due("the accounts after round " + round, accountsOf(x), want);
        }
    }

    private static void boundsOfAll() {
        for (int[] row : PLANS) {
            Plan plan = new Plan(row);
            RestMill x = made(plan.text());
            due(plan.text() + " RANGE", x.bound(0), plan.range);
            due(plan.text() + " WHOLE", x.bound(1), plan.whole);
            due(plan.text() + " HALF", x.bound(2), plan.half());
        }
    }

    private static void moduliOfAll() {
        for (int[] row : PLANS) {
            Plan plan = new Plan(row);
            RestMill x = made(plan.text());
            for (int k = 0; k < plan.moduli.length; k++) {
                due(plan.text() + " modulus(" + k + ")", x.modulus(k), plan.moduli[k]);
            }
        }
    }

    private static void inversesOfAll() {
        RestMill x = made("moduli 97 8 9 5 7;");
        for (int modulus = 0; modulus < 5; modulus++) {
            for (int by = 0; by < 5; by++) {
                int want = 0;
                for (int number = 1; number < x.modulus(by) && modulus != by; number++) {
                    want = number * x.modulus(modulus) % x.modulus(by) == 1 ? number : want;
                }
                due("inverse(" + modulus + ", " + by + ")", x.inverse(modulus, by), want);
            }
        }
    }

    private static void weightsOfAll() {
        for (int[] row : PLANS) {
            Plan plan = new Plan(row);
            RestMill x = made(plan.text());
            for (int k = 0; k < plan.moduli.length; k++) {
                int[] rests = new int[plan.moduli.length];
                rests[k] = 1;
                due(plan.text() + " weight(" + k + ")", x.weight(k), plan.value(rests));
            }
        }
    }

    // Promises 14 to 33

    private static void restsOfAll() {
        forValues((plan, x, value) -> {
            for (int k = 0; k < plan.moduli.length; k++) {
                due(told(plan, value) + ", rest(0, " + k + ")", x.rest(0, k), value % plan.moduli[k]);
                due(told(plan, value) + ", rest(1, " + k + ")", x.rest(1, k), 0);
            }
        });
    }

    private static void soundnessOfAll() {
        forValues((plan, x, value) -> due(told(plan, value) + ", isSound(0)", x.isSound(0), plan.sound(value)));
    }

    private static void comparesAll() {
        forPairs((plan, x, first, second) -> due(told(plan, first, second) + ", compare(0, 1)", x.compare(0, 1),
                Long.compare(plan.number(first), plan.number(second))));
    }

    private static void extendsAll() {
        forValues((plan, x, value) -> {
            for (int by : new int[] {2, 3, 10, 64, 97, 1000, 9999}) {
                long number = plan.number(value);
                while (number < 0) {
                    number += by;
                }
                due(told(plan, value) + ", extend(0, " + by + ", true)", x.extend(0, by, true), number % by);
                due(told(plan, value) + ", extend(0, " + by + ", false)", x.extend(0, by, false), value % by);
            }
        });
    }

    private static void gapsOfAll() {
        for (int[] row : PLANS) {
            Plan plan = new Plan(row);
            for (long from = 0; from < plan.whole; from++) {
                due(told(plan, from) + ", gap()", full(plan, from).gap(), 0);
            }
        }
    }

    private static void distancesOfAll() {
        forPairs((plan, x, first, second) -> {
            int want = 0;
            for (int modulus : plan.moduli) {
                want += first % modulus != second % modulus ? 1 : 0;
            }
            due(told(plan, first, second) + ", distance(0, 1)", x.distance(0, 1), want);
        });
    }

    private static long exactOf(int operation, long first, long second) {
        switch (operation) {
            case 0:
                return first + second;
            case 1:
                return first - second;
            case 2:
                return first * second;
            case 3:
                return floor(first, second);
            default:
                return first - second * floor(first, second);
        }
    }

    private static void exactOfAll() {
        forPairs((plan, x, first, second) -> {
            for (int operation = 0; operation < (second == 0 ? 3 : 5); operation++) {
                due(told(plan, first, second) + ", exact(" + operation + ", 0, 1)", x.exact(operation, 0, 1),
                        exactOf(operation, plan.number(first), plan.number(second)));
            }
        });
    }

    private static void whyOfAll() {
        forPairs((plan, x, first, second) -> {
            for (int strict = 0; strict <= 1; strict++) {
                x.setStrict(strict);
                for (int operation = 0; operation < 5; operation++) {
                    int why = x.why(operation, 0, 1);
                    String what = told(plan, first, second) + ", why(" + operation + ", 0, 1), STRICT " + strict;
                    int answer = x.operate(operation, 2, 0, 1);
                    boolean isRight = answer == 0 && x.number(2) == x.exact(operation, 0, 1);
                    due(what, why, answer != 0 ? answer : isRight ? 0 : 6);
                }
            }
        });
    }

    private static void numbersWithAll() {
        forValues((plan, x, value) -> {
            for (int k = 0; k < plan.moduli.length; k++) {
                int before = x.rest(0, k);
                for (int rest = 0; rest < plan.moduli[k]; rest++) {
                    String what = told(plan, value) + ", numberWith(0, " + k + ", " + rest + ")";
                    long want = plan.number(plan.valueWith(value, k, rest));
                    due(what, x.numberWith(0, k, rest), want);
                    x.hurt(0, k, rest);
                    due(what + " as by hurt()", x.number(0), want);
                    x.hurt(0, k, before);
                }
            }
        });
    }

    private static void nextModuliByGrow() {
        String[] setups = {"moduli 2 3;", "moduli 3 5;", "moduli 2 3 5 7 11;", "moduli 9 7 10 11; checks 2;",
            "moduli 97 89 83 79;", "moduli 97 89 83 79 17;", "moduli 96 95 91 89;", "moduli 2 3 5 7 11 13;"};
        for (String setup : setups) {
            RestMill x = made(setup);
            int want = RestMill.NONE;
            for (int modulus = 97; modulus >= 2; modulus--) {
                want = made(setup).grow(modulus) == 0 ? modulus : want;
            }
            due(setup + " nextModulus()", x.nextModulus(), want);
        }
    }

    private static void spareByDrop() {
        for (int[] row : PLANS) {
            Plan plan = new Plan(row);
            for (long value = 0; value < plan.whole; value++) {
                int want = 0;
                for (int k = 0; k < plan.moduli.length; k++) {
                    want |= holding(plan, 0, value).drop(k) == 0 ? 1 << k : 0;
                }
                due(told(plan, value) + ", spare()", holding(plan, 0, value).spare(), want);
            }
        }
    }

    private static void greatestOfAll() {
        for (int[] row : PLANS) {
            Plan plan = new Plan(row);
            for (long from = 0; from < plan.whole; from++) {
                int best = 0;
                for (int register = REGISTERS - 1; register >= 0; register--) {
                    long size = Math.abs(plan.number(valueIn(plan, register, from)));
                    best = size >= Math.abs(plan.number(valueIn(plan, best, from))) ? register : best;
                }
                due(told(plan, from) + ", greatest()", full(plan, from).greatest(), best);
            }
        }
    }

    private static void meansOfAll() {
        for (int[] row : PLANS) {
            Plan plan = new Plan(row);
            for (long from = 0; from < plan.whole; from++) {
                long sum = 0;
                for (int register = 0; register < REGISTERS; register++) {
                    sum += plan.number(valueIn(plan, register, from));
                }
                double want = (double) sum / (double) 8;
                due(told(plan, from) + ", mean()", String.valueOf(full(plan, from).mean()), String.valueOf(want));
            }
        }
    }

    private static void zeroSharesOfAll() {
        for (int[] row : PLANS) {
            Plan plan = new Plan(row);
            for (long from = 0; from < plan.whole; from++) {
                int zeros = 0;
                for (int register = 0; register < REGISTERS; register++) {
                    for (int rest : plan.rests(valueIn(plan, register, from))) {
                        zeros += rest == 0 ? 1 : 0;
                    }
                }
                float want = (float) zeros / (float) (REGISTERS * plan.moduli.length);
                due(told(plan, from) + ", zeroShare()", String.valueOf(full(plan, from).zeroShare()), String.valueOf(want));
            }
        }
    }

    // Promises 34 to 48

    private static void setsAll() {
        for (int[] row : PLANS) {
            Plan plan = new Plan(row);
            for (long number = -plan.whole; number <= plan.whole; number++) {
                RestMill x = made(plan.text());
                boolean fits = number >= -plan.half() && number <= plan.half();
                due(plan.text() + " set(6, " + number + ")", x.set(6, (int) number), fits ? 0 : 5);
                due(plan.text() + " number(6)", x.number(6), fits ? number : 0);
            }
        }
    }

    private static void placesOfOperate() {
        for (int to = 0; to < REGISTERS; to++) {
            for (int register = 0; register < REGISTERS; register++) {
                for (int other = 0; other < REGISTERS; other++) {
                    RestMill x = made("moduli 11 13 17; set a 1; set b 3; set c 9; set d 27; set e 81; set f 243;"
                            + "set g 729; set h - 729;");
                    long want = x.number(register) - x.number(other);
                    due("operate(1, " + to + ", " + register + ", " + other + ")", x.operate(1, to, register, other), 0);
                    due("its number", x.number(to), want > 1215 ? want - 2431 : want < -1215 ? want + 2431 : want);
                }
            }
        }
    }

    private static void scalesAll() {
        forValues((plan, x, value) -> {
            for (int k = 0; k < plan.moduli.length; k++) {
                hold(plan, x, 0, value);
                due(told(plan, value) + ", scale(0, " + k + ")", x.scale(0, k), 0);
                due(told(plan, value) + " by the modulus " + k, x.number(0), floor(plan.number(value), plan.moduli[k]));
            }
        });
    }

    private static void swapsAll() {
        forPairs((plan, x, first, second) -> {
            int want = Long.compare(plan.number(second), plan.number(first));
            due(told(plan, first, second) + ", swap(0, 1)", x.swap(0, 1), want);
            due(told(plan, first, second) + ", value(0) then", x.value(0), second);
            due(told(plan, first, second) + ", value(1) then", x.value(1), first);
        });
    }

    private static void growsAll() {
        forValues((plan, x, value) -> {
            due(told(plan, value) + ", grow(11)", x.grow(11), 0);
            due("the number of moduli", x.count(0), plan.moduli.length + 1);
            due("CHECKS", x.count(1), plan.checks);
            due("the new one", x.modulus(plan.moduli.length - plan.checks), 11);
            due("RANGE", x.bound(0), plan.range * 11);
            due(told(plan, value) + ", number(0) then", x.number(0), plan.number(value));
            due("its rest", x.rest(0, plan.moduli.length - plan.checks), (plan.number(value) + 11000) % 11);
        });
    }

    private static void dueDrop(Plan plan, long value, int modulus) {
        RestMill x = holding(plan, value, 0);
        long left = plan.whole / plan.moduli[modulus];
        long number = plan.number(value);
        long valueLeft = (number % left + left) % left;
        boolean isTold = (valueLeft <= (left - 1) / 2 ? valueLeft : valueLeft - left) == number;
        boolean isOnlyBase = modulus == 0 && plan.checks == plan.moduli.length - 1;
        boolean can = plan.moduli.length > 2 && !isOnlyBase && isTold;
        String what = told(plan, value) + ", drop(" + modulus + ")";
        due(what, x.drop(modulus), can ? 0 : 4);
        due(what + ", number(0)", x.number(0), number);
        due(what + ", number of moduli", x.count(0), can ? plan.moduli.length - 1 : plan.moduli.length);
        due(what + ", WHOLE", x.bound(1), can ? left : plan.whole);
        for (int k = 0; can && k < x.count(0); k++) {
            int kept = plan.moduli[k < modulus ? k : k + 1];
            due(what + ", modulus(" + k + ")", x.modulus(k), kept);
            due(what + ", rest(0, " + k + ")", x.rest(0, k), (number % kept + kept) % kept);
        }
    }

    private static void dropsAll() {
        for (int[] row : PLANS) {
            Plan plan = new Plan(row);
            for (long value = 0; value < plan.whole; value++) {
                for (int modulus = 0; modulus < plan.moduli.length; modulus++) {
                    dueDrop(plan, value, modulus);
                }
            }
        }
    }

    private static void setsStrict() {
        RestMill x = new RestMill();
        int[] row = {0, 1, 1, 0, 0, 1};
        for (int k = 0; k < row.length; k++) {
            due("setStrict(" + row[k] + ")", x.setStrict(row[k]), k == 0 ? 0 : row[k - 1]);
            due("count(2)", x.count(2), row[k]);
        }
    }

    private static void undoesEach() {
        RestMill x = made("moduli 7 11 13; checks 1;");
        String[] states = new String[7];
        Test[] calls = {() -> x.set(0, 5), () -> x.hurt(1, 2, 1), () -> x.operate(2, 2, 0, 0), () -> x.scale(2, 0),
            () -> x.grow(2), () -> play(x, "swap a c; strict 1;"), () -> x.drop(0)};
        for (int k = 0; k < calls.length; k++) {
            states[k] = numbersOf(x) + moduliOf(x) + accountsOf(x) + x.count(2);
            calls[k].run();
        }
        for (int k = calls.length - 1; k >= 0; k--) {
            int changes = x.count(6);
            due("undo()", x.undo(), changes - 1);
            due("count(6)", x.count(6), changes - 1);
            due("what it brings back", numbersOf(x) + moduliOf(x) + accountsOf(x) + x.count(2), states[k]);
        }
    }

    private static void printsRegisters() {
        forValues((plan, x, value) -> {
            x.printModuli();
            StringBuilder want = new StringBuilder("a=(");
            for (int k = 0; k < plan.moduli.length; k++) {
                want.append(k == 0 ? "" : ",").append(value % plan.moduli[k]);
            }
            want.append(")=").append(plan.number(value)).append(plan.sound(value) ? "" : "!");
            due(told(plan, value) + ", printRegister(0)", printedRegister(x, 0), want.toString());
        });
        RestMill x = new RestMill();
        for (int register = 0; register < REGISTERS; register++) {
            due("its letter", printedRegister(x, register), (char) ('a' + register) + "=(0,0,0)=0");
        }
    }

    private static void printsModuli() {
        for (int[] row : PLANS) {
            Plan plan = new Plan(row);
            RestMill x = made(plan.text());
            x.printRegister(0);
            StringBuilder want = new StringBuilder();
            for (int k = 0; k < plan.moduli.length; k++) {
                boolean isCheck = k >= plan.moduli.length - plan.checks;
                want.append(k == 0 ? "" : " ").append(plan.moduli[k]).append(isCheck ? "?" : "");
            }
            due(plan.text() + " printModuli()", printedModuli(x), want.toString());
        }
    }

    private static void outputBytes() {
        RestMill x = made("moduli 7 11 13; set b - 4;");
        x.printRegister(1);
        byte[] want = {98, 61, 40, 51, 44, 55, 44, 57, 41, 61, 45, 52};
        for (int index = 0; index < want.length; index++) {
            due("outputByte(" + index + ")", x.outputByte(index), want[index]);
        }
        due("outputByte() behind them", x.outputByte(want.length), -1);
    }

    private static void saves() {
        for (int[] row : PLANS) {
            Plan plan = new Plan(row);
            RestMill x = full(plan, 1);
            x.operate(0, 1, 2, 3);
            x.operate(3, 1, 2, 3);
            x.setStrict(1);
            String before = numbersOf(x) + moduliOf(x) + accountsOf(x) + x.count(1) + x.count(2);
            due(plan.text() + " saveState()", x.saveState(), plan.moduli.length);
            x.setStrict(0);
            x.grow(11);
            x.set(7, 0);
            x.operate(2, 0, 0, 0);
            due(plan.text() + " restoreState()", x.restoreState(), plan.moduli.length);
            due("what it brings back", numbersOf(x) + moduliOf(x) + accountsOf(x) + x.count(1) + x.count(2), before);
        }
    }

    private static void terms() {
        sentence("terms", "A number that is told by its rests is given back", PlainSentencesTest::givenBack);
        sentence("section 1", "All numbers are whole", PlainSentencesTest::wholeNumbers);
        sentence("section 1", "the number less its rest is a multiple of the modulus", PlainSentencesTest::multiples);
        sentence("section 2", "The digits of a register are the numbers for which", PlainSentencesTest::digitsOfAll);
        sentence("section 2", "that has the rest of the register for this modulus, and the rest 0 for all others",
                PlainSentencesTest::partsOfAll);
        sentence("section 3", "What an operation gives is a row of rests, as of a register", () -> dueOperations(0, 2));
        sentence("section 3", "3 quotient: that of both NUMBERs", () -> dueOperations(3, 4));
        sentence("section 3", "The reasons for which something is refused are", PlainSentencesTest::reasons);
        sentence("section 3", "The faults of a register that is not sound are the moduli for which there is",
                PlainSentencesTest::faultsOfAll);
        sentence("section 3", "To mend a register means", PlainSentencesTest::mendOfAll);
        sentence("section 4", "N is a number", PlainSentencesTest::numbersInTexts);
        sentence("section 4", "[ \"checks\" N \";\" ] [ \"strict\" N \";\" ] { \"set\" R [ \"-\" ] N \";\" }",
                PlainSentencesTest::partsThatMayBeLeftOut);
        sentence("section 4", "A text is parsed from left to right", PlainSentencesTest::fromLeftToRight);
        sentence("section 5", "`NO_ERROR = 0`: No error", PlainSentencesTest::constants);
        sentence("section 5", "`SYNTAX = 1`: Error code: the text does not follow the form",
                () -> constantOf(RestMill.SYNTAX, 1, "moduli 5, 7;"));
        sentence("section 5", "`OUT_OF_RANGE = 2`: Error code: a number is out of range",
                () -> constantOf(RestMill.OUT_OF_RANGE, 2, "moduli 5 98;"));
        sentence("section 5", "`REPEATED = 3`: Error code: something is told again",
                () -> constantOf(RestMill.REPEATED, 3, "moduli 5 7; set h 1; set h 1;"));
        sentence("section 5", "`COMMON = 4`: Error code: moduli have a common divisor",
                () -> constantOf(RestMill.COMMON, 4, "moduli 10 15;"));
        sentence("section 5", "`TOO_MANY = 5`: Error code: there are too many of something",
                PlainSentencesTest::constantTooMany);
    }

    private static void texts() {
        sentence("promise 2", "`a`: first four bytes", () -> bytesOf(0));
        sentence("promise 2", "`b`: next four bytes", () -> bytesOf(1));
        sentence("promise 2", "`c`: next four bytes", () -> bytesOf(2));
        sentence("promise 2", "`d`: next four bytes", () -> bytesOf(3));
        sentence("promise 2", "`e`: last four bytes", () -> bytesOf(4));
        sentence("promise 3", "Returns true", PlainSentencesTest::truncates);
        sentence("promise 4", "Loads a setup from the input buffer", PlainSentencesTest::loads);
        sentence("promise 5", "If it has no error", PlainSentencesTest::playsWithoutError);
        sentence("promise 6", "Returns the error of the latest call of loadMill or playScript",
                PlainSentencesTest::errorsOfLatestCall);
        sentence("promise 7", "Returns the offset of the error of the latest call of loadMill or playScript",
                PlainSentencesTest::errorsOfLatestCall);
    }

    private static void ofTheMill() {
        sentence("promise 8", "Returns the number", PlainSentencesTest::countsOfAll);
        sentence("promise 9", "Returns the sum so far", PlainSentencesTest::sumsSoFar);
        sentence("promise 10", "Returns a bound", PlainSentencesTest::boundsOfAll);
        sentence("promise 11", "Returns the modulus", PlainSentencesTest::moduliOfAll);
        sentence("promise 12", "which multiplied with the first one has the rest 1 for the other one",
                PlainSentencesTest::inversesOfAll);
        sentence("promise 13", "and the rest 0 for all others", PlainSentencesTest::weightsOfAll);
        sentence("promise 29", "that has no common divisor above 1 with any of them, and with which WHOLE would not be too great",
                PlainSentencesTest::nextModuliByGrow);
        sentence("promise 30", "Returns a set: bit k for the modulus k", PlainSentencesTest::spareByDrop);
        sentence("promise 31", "Finds the register with the greatest NUMBER, without its sign",
                PlainSentencesTest::greatestOfAll);
        sentence("promise 32", "Returns the mean of the NUMBERs of all registers", PlainSentencesTest::meansOfAll);
        sentence("promise 33", "Returns which part of all rests of all registers is 0", PlainSentencesTest::zeroSharesOfAll);
    }

    private static void ofRegisters() {
        sentence("promise 14", "Returns the rest", PlainSentencesTest::restsOfAll);
        sentence("promise 15", "Returns the digit", PlainSentencesTest::digitsOfAll);
        sentence("promise 16", "Returns the part", PlainSentencesTest::partsOfAll);
        sentence("promise 17", "Returns RANK", PlainSentencesTest::partsOfAll);
        sentence("promise 18", "Returns VALUE", PlainSentencesTest::givenBack);
        sentence("promise 19", "Returns NUMBER", PlainSentencesTest::givenBack);
        sentence("promise 20", "Returns whether it is", PlainSentencesTest::soundnessOfAll);
        sentence("promise 21", "Compares the NUMBERs of two registers", PlainSentencesTest::comparesAll);
        sentence("promise 22", "whether the rest of NUMBER is meant, otherwise that of VALUE", PlainSentencesTest::extendsAll);
        sentence("promise 23", "Returns the differences between VALUE of a register by its digits and by its parts",
                PlainSentencesTest::gapsOfAll);
        sentence("promise 24", "Returns how many", PlainSentencesTest::distancesOfAll);
        sentence("promise 25", "Returns what an operation on the NUMBERs of two registers", PlainSentencesTest::exactOfAll);
        sentence("promise 26", "Tells what operate() of an operation would answer now, and whether its result would be right",
                PlainSentencesTest::whyOfAll);
        sentence("promise 27", "Returns the faults of a register (section 3)", PlainSentencesTest::faultsOfAll);
        sentence("promise 28", "Returns NUMBER that a register would have with another rest for a modulus",
                PlainSentencesTest::numbersWithAll);
    }

    private static void changes() {
        sentence("promise 34", "Gives a register a NUMBER", PlainSentencesTest::setsAll);
        sentence("promise 36", "`to`: register of the result", PlainSentencesTest::placesOfOperate);
        sentence("promise 36", "Does an operation on two registers", () -> dueOperations(0, 4));
        sentence("promise 37", "Scales a register by a modulus", PlainSentencesTest::scalesAll);
        sentence("promise 38", "Mends a register (section 3)", PlainSentencesTest::mendOfAll);
        sentence("promise 39", "Swaps two registers", PlainSentencesTest::swapsAll);
        sentence("promise 40", "Adds a modulus", PlainSentencesTest::growsAll);
        sentence("promise 41", "or NUMBER of a register could not be told by the others", PlainSentencesTest::dropsAll);
        sentence("promise 42", "Sets STRICT", PlainSentencesTest::setsStrict);
        sentence("promise 43", "Returns the number of changes that can still be undone", PlainSentencesTest::undoesEach);
        sentence("promise 44", "Writes a register to the output, in place of what it had: its letter",
                PlainSentencesTest::printsRegisters);
        sentence("promise 45", "Writes the moduli to the output, in place of what it had", PlainSentencesTest::printsModuli);
        sentence("promise 46", "Returns a byte of the output", PlainSentencesTest::outputBytes);
        sentence("promise 47", "Returns the number of moduli", PlainSentencesTest::saves);
        sentence("promise 48", "Returns the number of moduli", PlainSentencesTest::saves);
    }

    public static void main(String[] args) {
        begin(args);
        terms();
        texts();
        ofTheMill();
        ofRegisters();
        changes();
        end();
    }
}
