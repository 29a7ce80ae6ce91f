/**
 * The sentences of the document that name an exception, each with a test of its own: just outside of
 * the limits and far outside it is thrown and changes nothing, at the limits it is not thrown.
 */
public final class ThrowsEdgesTest extends Sentences {
    private static final String NO_REGISTER = "Throws `IndexOutOfBoundsException` if there is no such register";
    private static final String NO_MODULUS = "Throws `IndexOutOfBoundsException` if there is no such modulus";
    private static final String NO_REGISTER_OR_MODULUS = "Throws `IndexOutOfBoundsException` if there is no such register or modulus";
    private static final String NO_WHAT = "Throws `IllegalArgumentException` if what is out of range";
    private static final String NO_OPERATION = "Throws `IllegalArgumentException` if operation is out of range";
    private static final String NO_REST = "Throws `IllegalArgumentException` if rest is out of range";

    private static final int LAST_REGISTER = 7;
    private static final int LAST_MODULUS = 2;

    private interface OfMill {
        void call(RestMill x);
    }

    private interface OfNumber {
        void call(RestMill x, int number);
    }

    /** A mill of the moduli 7, 11 and 13 with a state that a wrong change would show in. */
    private static RestMill prepared() {
        RestMill x = made("moduli 7 11 13; checks 1; set a 5; set b - 7; set h 38;");
        x.set(2, 3);
        x.hurt(3, 0, 1);
        x.mend(0);
        x.printRegister(0);
        return x;
    }

    private static long called(OfMill call, RestMill x) {
        call.call(x);
        return 0;
    }

    private static void thrown(String what, Class<?> want, OfMill call) {
        RestMill x = prepared();
        dueNoChange(what, x, () -> dueThrow(what, want, () -> called(call, x)));
        due("the output after " + what, outputOf(x), "a=(5,5,5)=5");
    }

    private static void notThrown(String what, OfMill call) {
        String answer = "nothing";
        try {
            call.call(prepared());
        } catch (RuntimeException e) {
            answer = e.getClass().getSimpleName();
        }
        due("what is thrown by " + what, answer, "nothing");
    }

    private static void limits(String name, Class<?> want, int least, int greatest, OfNumber call) {
        for (int number : new int[] {LEAST, least - 1, greatest + 1, GREATEST}) {
            thrown(name + " of " + number, want, x -> call.call(x, number));
        }
        for (int number : new int[] {least, greatest}) {
            notThrown(name + " of " + number, x -> call.call(x, number));
        }
    }

    private static void registers(String name, OfNumber call) {
        limits(name, INDEX, 0, LAST_REGISTER, call);
    }

    private static void moduli(String name, OfNumber call) {
        limits(name, INDEX, 0, LAST_MODULUS, call);
    }

    private static void rests(String name, OfNumber by7, OfNumber by11, OfNumber by13) {
        limits(name + " by 7", ARGUMENT, 0, 6, by7);
        limits(name + " by 11", ARGUMENT, 0, 10, by11);
        limits(name + " by 13", ARGUMENT, 0, 12, by13);
    }

    private static void operations(String name, OfNumber call) {
        limits(name, ARGUMENT, 0, 4, call);
    }

    private static void ofTheMill() {
        sentence("promise 8", NO_WHAT, () -> limits("count()", ARGUMENT, 0, 6, (x, n) -> x.count(n)));
        sentence("promise 9", NO_WHAT, () -> limits("account()", ARGUMENT, 0, 7, (x, n) -> x.account(n)));
        sentence("promise 10", NO_WHAT, () -> limits("bound()", ARGUMENT, 0, 2, (x, n) -> x.bound(n)));
        sentence("promise 11", NO_MODULUS, () -> moduli("modulus()", (x, n) -> x.modulus(n)));
        sentence("promise 12", NO_MODULUS, () -> {
            moduli("inverse() of the first", (x, n) -> x.inverse(n, 0));
            moduli("inverse() of the second", (x, n) -> x.inverse(0, n));
            moduli("inverse() of both", (x, n) -> x.inverse(n, n));
        });
        sentence("promise 13", NO_MODULUS, () -> moduli("weight()", (x, n) -> x.weight(n)));
    }

    private static void ofRegisters() {
        sentence("promise 14", NO_REGISTER_OR_MODULUS, () -> {
            registers("rest() of a register", (x, n) -> x.rest(n, 0));
            moduli("rest() of a modulus", (x, n) -> x.rest(0, n));
        });
        sentence("promise 15", "Throws `IndexOutOfBoundsException` if there is no such register, or there are not so many moduli", () -> {
            registers("digit() of a register", (x, n) -> x.digit(n, 0));
            moduli("digit() of an index", (x, n) -> x.digit(0, n));
        });
        sentence("promise 16", NO_REGISTER_OR_MODULUS, () -> {
            registers("part() of a register", (x, n) -> x.part(n, 0));
            moduli("part() of a modulus", (x, n) -> x.part(0, n));
        });
        sentence("promise 17", NO_REGISTER, () -> registers("rank()", (x, n) -> x.rank(n)));
        sentence("promise 18", NO_REGISTER, () -> registers("value()", (x, n) -> x.value(n)));
        sentence("promise 19", NO_REGISTER, () -> registers("number()", (x, n) -> x.number(n)));
        sentence("promise 20", NO_REGISTER, () -> registers("isSound()", (x, n) -> x.isSound(n)));
        sentence("promise 21", NO_REGISTER, () -> {
            registers("compare() of the first", (x, n) -> x.compare(n, 0));
            registers("compare() of the second", (x, n) -> x.compare(0, n));
        });
        sentence("promise 22", NO_REGISTER, () -> {
            registers("extend() of NUMBER", (x, n) -> x.extend(n, 2, true));
            registers("extend() of VALUE", (x, n) -> x.extend(n, 9999, false));
        });
        sentence("promise 22", "Throws `IllegalArgumentException` if by is out of range", () -> {
            limits("extend() of NUMBER by", ARGUMENT, 2, 9999, (x, n) -> x.extend(0, n, true));
            limits("extend() of VALUE by", ARGUMENT, 2, 9999, (x, n) -> x.extend(7, n, false));
        });
        sentence("promise 24", NO_REGISTER, () -> {
            registers("distance() of the first", (x, n) -> x.distance(n, 0));
            registers("distance() of the second", (x, n) -> x.distance(0, n));
        });
    }

    private static void ofWhatWouldBe() {
        sentence("promise 25", NO_OPERATION, () -> operations("exact()", (x, n) -> x.exact(n, 0, 1)));
        sentence("promise 25", NO_REGISTER, () -> {
            registers("exact() of the first", (x, n) -> x.exact(0, n, 0));
            registers("exact() of the second", (x, n) -> x.exact(3, 0, n));
        });
        sentence("promise 25", "Throws `IllegalStateException` if operation is 3 or 4 and NUMBER of the other one is 0",
                ThrowsEdgesTest::exactByZero);
        sentence("promise 26", NO_OPERATION, () -> operations("why()", (x, n) -> x.why(n, 0, 1)));
        sentence("promise 26", NO_REGISTER, () -> {
            registers("why() of the first", (x, n) -> x.why(0, n, 0));
            registers("why() of the second", (x, n) -> x.why(4, 0, n));
        });
        sentence("promise 27", NO_REGISTER, () -> registers("faults()", (x, n) -> x.faults(n)));
        sentence("promise 28", NO_REGISTER_OR_MODULUS, () -> {
            registers("numberWith() of a register", (x, n) -> x.numberWith(n, 0, 0));
            moduli("numberWith() of a modulus", (x, n) -> x.numberWith(0, n, 0));
        });
        sentence("promise 28", NO_REST, () -> rests("numberWith()", (x, n) -> x.numberWith(0, 0, n),
                (x, n) -> x.numberWith(0, 1, n), (x, n) -> x.numberWith(7, 2, n)));
    }

    private static void exactByZero() {
        for (int operation = 3; operation <= 4; operation++) {
            int which = operation;
            thrown("exact(" + which + ") by 0", STATE, x -> x.exact(which, 0, 4));
            thrown("exact(" + which + ") of 0 by 0", STATE, x -> x.exact(which, 4, 4));
            notThrown("exact(" + which + ") by -7", x -> x.exact(which, 4, 1));
            notThrown("exact(" + which + ") by an unsound one", x -> x.exact(which, 0, 3));
        }
        for (int operation = 0; operation <= 2; operation++) {
            int which = operation;
            notThrown("exact(" + which + ") with 0", x -> x.exact(which, 0, 4));
        }
    }

    private static void ofChanges() {
        sentence("promise 34", NO_REGISTER, () -> registers("set()", (x, n) -> x.set(n, 1)));
        sentence("promise 34", "Throws `IllegalArgumentException` if number is out of range",
                () -> limits("set() to", ARGUMENT, -1000000000, 1000000000, (x, n) -> x.set(0, n)));
        sentence("promise 35", NO_REGISTER_OR_MODULUS, () -> {
            registers("hurt() of a register", (x, n) -> x.hurt(n, 0, 1));
            moduli("hurt() of a modulus", (x, n) -> x.hurt(0, n, 1));
        });
        sentence("promise 35", NO_REST, () -> rests("hurt()", (x, n) -> x.hurt(0, 0, n), (x, n) -> x.hurt(0, 1, n),
                (x, n) -> x.hurt(7, 2, n)));
        sentence("promise 36", NO_OPERATION, () -> operations("operate()", (x, n) -> x.operate(n, 4, 0, 1)));
        sentence("promise 36", NO_REGISTER, () -> {
            registers("operate() to", (x, n) -> x.operate(0, n, 0, 1));
            registers("operate() of the first", (x, n) -> x.operate(0, 4, n, 1));
            registers("operate() of the second", (x, n) -> x.operate(3, 4, 0, n));
        });
        sentence("promise 37", NO_REGISTER_OR_MODULUS, () -> {
            registers("scale() of a register", (x, n) -> x.scale(n, 0));
            moduli("scale() by a modulus", (x, n) -> x.scale(0, n));
        });
        sentence("promise 38", NO_REGISTER, () -> registers("mend()", (x, n) -> x.mend(n)));
        sentence("promise 39", NO_REGISTER, () -> {
            registers("swap() of the first", (x, n) -> x.swap(n, 1));
            registers("swap() of the second", (x, n) -> x.swap(1, n));
        });
        sentence("promise 40", "Throws `IllegalArgumentException` if modulus is out of range",
                () -> limits("grow()", ARGUMENT, 2, 97, (x, n) -> x.grow(n)));
        sentence("promise 41", NO_MODULUS, () -> moduli("drop()", (x, n) -> x.drop(n)));
        sentence("promise 42", "Throws `IllegalArgumentException` if strict is out of range",
                () -> limits("setStrict()", ARGUMENT, 0, 1, (x, n) -> x.setStrict(n)));
        sentence("promise 44", NO_REGISTER, () -> registers("printRegister()", (x, n) -> x.printRegister(n)));
    }

    private static void undoOfNone() {
        RestMill x = made("moduli 7 11 13;");
        dueNoChange("undo() of none", x, () -> dueThrow("undo() of none", ELEMENT, () -> x.undo()));
        x.set(0, 1);
        x.set(0, 2);
        due("undo() of two", x.undo(), 1);
        due("undo() of one", x.undo(), 0);
        dueNoChange("a third undo()", x, () -> dueThrow("a third undo()", ELEMENT, () -> x.undo()));
    }

    private static void restoreOfNone() {
        RestMill x = made("moduli 7 11 13;");
        x.set(0, 1);
        dueNoChange("restoreState() of none", x, () -> dueThrow("restoreState() of none", ELEMENT, () -> x.restoreState()));
        x.saveState();
        due("restoreState() behind saveState()", x.restoreState(), 3);
        load(x, "moduli 7 11;");
        dueNoChange("restoreState() behind a load", x, () -> dueThrow("restoreState() behind a load", ELEMENT, () -> x.restoreState()));
    }

    private static void otherNumbersOutOfRange() {
        thrown("count(7)", ARGUMENT, x -> x.count(7));
        thrown("account(8)", ARGUMENT, x -> x.account(8));
        thrown("bound(3)", ARGUMENT, x -> x.bound(3));
        thrown("extend() by 1", ARGUMENT, x -> x.extend(0, 1, true));
        thrown("exact(5)", ARGUMENT, x -> x.exact(5, 0, 0));
        thrown("why(-1)", ARGUMENT, x -> x.why(-1, 0, 0));
        thrown("numberWith() of a rest", ARGUMENT, x -> x.numberWith(0, 1, 11));
        thrown("set() to a number", ARGUMENT, x -> x.set(0, -1000000001));
        thrown("hurt() to a rest", ARGUMENT, x -> x.hurt(0, 1, 11));
        thrown("operate(5)", ARGUMENT, x -> x.operate(5, 0, 0, 0));
        thrown("grow(1)", ARGUMENT, x -> x.grow(1));
        thrown("setStrict(2)", ARGUMENT, x -> x.setStrict(2));
    }

    private static void firstOfSeveral() {
        thrown("extend() of none by 1", INDEX, x -> x.extend(8, 1, true));
        thrown("exact(5) of none", ARGUMENT, x -> x.exact(5, 8, -1));
        thrown("exact(5) by 0", ARGUMENT, x -> x.exact(5, 0, 4));
        thrown("exact(3) of none by 0", INDEX, x -> x.exact(3, 8, 4));
        thrown("exact(4) by none", INDEX, x -> x.exact(4, 0, -1));
        thrown("why(5) of none", ARGUMENT, x -> x.why(5, 8, -1));
        thrown("numberWith() of no register and no rest", INDEX, x -> x.numberWith(8, 0, 7));
        thrown("numberWith() of no modulus and no rest", INDEX, x -> x.numberWith(0, 3, -1));
        thrown("set() of none to a number", INDEX, x -> x.set(8, 1000000001));
        thrown("hurt() of no register and no rest", INDEX, x -> x.hurt(-1, 0, 7));
        thrown("hurt() of no modulus and no rest", INDEX, x -> x.hurt(0, -1, -1));
        thrown("operate(5) to none", ARGUMENT, x -> x.operate(5, 8, 0, 0));
        thrown("operate(-1) of none", ARGUMENT, x -> x.operate(-1, 0, 8, 0));
        thrown("operate(-1) by none", ARGUMENT, x -> x.operate(-1, 0, 0, 8));
    }

    private static void ofAll() {
        sentence("promise 43", "Throws `NoSuchElementException` if there is none", ThrowsEdgesTest::undoOfNone);
        sentence("promise 48", "Throws `NoSuchElementException` if no state is saved", ThrowsEdgesTest::restoreOfNone);
        sentence("section 5", "IllegalArgumentException if any other number is out of its range", ThrowsEdgesTest::otherNumbersOutOfRange);
        sentence("section 5", "If several exceptions apply to a call, the one that is listed first is thrown", ThrowsEdgesTest::firstOfSeveral);
    }

    public static void main(String[] args) {
        begin(args);
        ofTheMill();
        ofRegisters();
        ofWhatWouldBe();
        ofChanges();
        ofAll();
        end();
    }
}
