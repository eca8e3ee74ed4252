/** Promises 1 to 9: each sentence that names an edge has a test of its own, on objects of its own. */
public final class EdgesOfActsTest {
    private static final int MIN = Integer.MIN_VALUE;
    private static final int MAX = Integer.MAX_VALUE;
    private static final long NO = Long.MIN_VALUE;

    private EdgesOfActsTest() {
    }

    public static void main(String[] args) {
        newObject();
        act();
        cost();
        chances();
        value();
        reserve();
        pay();
        gain();
        answer();
        Due.end("EdgesOfActsTest");
    }

    private static PaySteer withActs(int sights, int... costs) {
        PaySteer x = new PaySteer(sights - 2);
        for (int cost : costs) {
            x.act(cost);
        }
        return x;
    }

    // ---- promise 1

    private static void newObject() {
        sightsByTheModulo();
        theModuloWrapsAround();
        theModuloIsFrom0();
        noActsAtFirst();
        theConstants();
    }

    private static void hasSights(int made, int sights) {
        PaySteer x = new PaySteer(made);
        Due.is("PaySteer(" + made + "), count(1)", x.count(1), sights);
        Due.is("PaySteer(" + made + "), the last sight", x.pay(sights - 1, 0), 0);
        Due.is("PaySteer(" + made + "), a sight behind", x.pay(sights, 0), -1);
    }

    private static void sightsByTheModulo() {
        Due.by("Promise 1: 2 + (sights modulo 3) SIGHTS");
        hasSights(0, 2);
        hasSights(1, 3);
        hasSights(2, 4);
    }

    private static void theModuloWrapsAround() {
        Due.by("Promise 1: sights modulo 3, wraps around");
        hasSights(3, 2);
        hasSights(4, 3);
        hasSights(5, 4);
        hasSights(MAX, 3);
        hasSights(MAX - 1, 2);
    }

    private static void theModuloIsFrom0() {
        Due.by("Promise 1: modulo 3, from 0");
        hasSights(-1, 4);
        hasSights(-2, 3);
        hasSights(-3, 2);
        hasSights(MIN, 3);
        hasSights(MIN + 1, 4);
    }

    private static void noActsAtFirst() {
        Due.by("Promise 1: no ACTS");
        PaySteer x = new PaySteer(0);
        Due.is("count(0)", x.count(0), 0);
        Due.is("cost(0, 0)", x.cost(0, 0), -1);
        Due.is("gain(0, 0)", x.gain(0, 0), NO);
    }

    private static void theConstants() {
        Due.by("The public face: NONE = -1, BAD = -2, STATE = -3, FULL = -4, NO = Long.MIN_VALUE");
        Due.is("NONE", PaySteer.NONE, -1);
        Due.is("BAD", PaySteer.BAD, -2);
        Due.is("STATE", PaySteer.STATE, -3);
        Due.is("FULL", PaySteer.FULL, -4);
        Due.is("NO", PaySteer.NO, NO);
    }

    // ---- promise 2

    private static void act() {
        actsAreNumberedFrom0();
        aFifthActIsFull();
        fullChangesNothing();
        anActCosts0AtLeast();
        anActCosts99AtMost();
        aBadActChangesNothing();
        badAheadOfFull();
        all12AtSight0InBoth();
    }

    private static void actsAreNumberedFrom0() {
        Due.by("Promise 2: its number; ACTS are numbered from 0 on");
        PaySteer x = new PaySteer(0);
        for (int a = 0; a < 4; a++) {
            Due.is("act(1)", x.act(1), a);
            Due.is("count(0)", x.count(0), a + 1);
        }
    }

    private static void aFifthActIsFull() {
        Due.by("Promise 2: FULL; ACTS, 4 at most");
        PaySteer x = withActs(2, 1, 1, 1);
        Due.is("a fourth", x.act(1), 3);
        Due.is("a fifth", x.act(1), -4);
        Due.is("a fifth, again", x.act(0), -4);
    }

    private static void fullChangesNothing() {
        Due.by("Part 7: refusals change nothing: act, FULL");
        PaySteer x = withActs(2, 10, 20, 30, 40);
        x.act(99);
        Due.is("count(0)", x.count(0), 4);
        for (int a = 0; a < 4; a++) {
            Due.is("cost(" + a + ", 0)", x.cost(a, 0), 10 * a + 10);
        }
    }

    private static void anActCosts0AtLeast() {
        Due.by("Promise 2: BAD; COST from 0 on");
        PaySteer x = new PaySteer(0);
        Due.is("act(-1)", x.act(-1), -2);
        Due.is("act(MIN)", x.act(MIN), -2);
        Due.is("act(0)", x.act(0), 0);
        Due.is("its cost", x.cost(0, 1), 0);
    }

    private static void anActCosts99AtMost() {
        Due.by("Promise 2: BAD; COST up to 99");
        PaySteer x = new PaySteer(0);
        Due.is("act(100)", x.act(100), -2);
        Due.is("act(MAX)", x.act(MAX), -2);
        Due.is("act(99)", x.act(99), 0);
        Due.is("its cost", x.cost(0, 1), 99);
    }

    private static void aBadActChangesNothing() {
        Due.by("Part 7: refusals change nothing: act, BAD");
        PaySteer x = withActs(2, 7);
        x.act(100);
        x.act(-1);
        Due.is("count(0)", x.count(0), 1);
        Due.is("the next one's number", x.act(8), 1);
        Due.is("its cost", x.cost(1, 0), 8);
        Due.is("the first one's cost", x.cost(0, 0), 7);
    }

    private static void badAheadOfFull() {
        Due.by("Part 7: of several the first one told: act, BAD ahead of FULL");
        PaySteer x = withActs(2, 0, 0, 0, 0);
        Due.is("act(100)", x.act(100), -2);
        Due.is("act(-1)", x.act(-1), -2);
    }

    private static void all12AtSight0InBoth() {
        Due.by("Part 1: CHANCES, all 12 at SIGHT 0 at first, in both");
        PaySteer x = withActs(4, 0, 0, 0, 0);
        x.pay(0, 5);
        x.pay(1, 100);
        x.pay(2, 200);
        x.pay(3, 300);
        for (int a = 0; a < 4; a++) {
            Due.is("gain(" + a + ", 0)", x.gain(a, 0), 60);
            Due.is("gain(" + a + ", 1)", x.gain(a, 1), 60);
        }
    }

    // ---- promise 3

    private static void cost() {
        costAnswersWhatItWas();
        aCostIs0AtLeast();
        aCostIs99AtMost();
        noCostOfNoAct();
        costNoneAheadOfBad();
        refusedCostsChangeNothing();
    }

    private static void costAnswersWhatItWas() {
        Due.by("Promise 3: what it was");
        PaySteer x = withActs(2, 40, 41);
        Due.is("cost(1, 5)", x.cost(1, 5), 41);
        Due.is("cost(1, 6)", x.cost(1, 6), 5);
        Due.is("cost(0, 1)", x.cost(0, 1), 40);
    }

    private static void aCostIs0AtLeast() {
        Due.by("Promise 3: BAD; COST from 0 on");
        PaySteer x = withActs(2, 7);
        Due.is("cost(0, -1)", x.cost(0, -1), -2);
        Due.is("cost(0, MIN)", x.cost(0, MIN), -2);
        Due.is("cost(0, 0)", x.cost(0, 0), 7);
        Due.is("gain(0, 0)", x.gain(0, 0), 0);
    }

    private static void aCostIs99AtMost() {
        Due.by("Promise 3: BAD; COST up to 99");
        PaySteer x = withActs(2, 7);
        Due.is("cost(0, 100)", x.cost(0, 100), -2);
        Due.is("cost(0, MAX)", x.cost(0, MAX), -2);
        Due.is("cost(0, 99)", x.cost(0, 99), 7);
        Due.is("gain(0, 0)", x.gain(0, 0), -1188);
    }

    private static void noCostOfNoAct() {
        Due.by("Promise 3: NONE");
        PaySteer x = withActs(2, 7, 8);
        for (int a : new int[] {-1, 2, 3, 4, MIN, MAX}) {
            Due.is("cost(" + a + ", 0)", x.cost(a, 0), -1);
        }
    }

    private static void costNoneAheadOfBad() {
        Due.by("Part 7: of several the first one told: cost, NONE ahead of BAD");
        PaySteer x = withActs(2, 7);
        Due.is("cost(1, 100)", x.cost(1, 100), -1);
        Due.is("cost(-1, -1)", x.cost(-1, -1), -1);
    }

    private static void refusedCostsChangeNothing() {
        Due.by("Part 7: refusals change nothing: cost");
        PaySteer x = withActs(2, 7);
        x.cost(0, 100);
        x.cost(0, -1);
        x.cost(1, 5);
        Due.is("count(0)", x.count(0), 1);
        Due.is("cost(0, 7)", x.cost(0, 7), 7);
    }

    // ---- promise 4

    private static void chances() {
        sight0IsTheLowestDigit();
        digitsAreToTheBase16();
        chancesAreNot11();
        chancesAreNot13();
        aDigitOfNoSightOfTwo();
        aDigitOfNoSightOfThree();
        aDigitOfNoSightOfFour();
        noChancesOfNoAct();
        noChancesInNoWorld();
        chancesNoneAheadOfBad();
        eachWorldHasItsOwnChances();
        refusedChancesChangeNothing();
    }

    private static void sight0IsTheLowestDigit() {
        Due.by("Promise 4: digits, SIGHT 0's the lowest: 0");
        PaySteer x = withActs(4, 0);
        x.pay(0, 1);
        x.pay(1, 10);
        x.pay(2, 100);
        x.pay(3, 999);
        Due.is("chances(0, 0, 0x1236)", x.chances(0, 0, 0x1236), 0);
        Due.is("gain(0, 0)", x.gain(0, 0), 6 + 30 + 200 + 999);
    }

    private static void digitsAreToTheBase16() {
        Due.by("Promise 4: digits to the base 16, up to 12");
        PaySteer x = withActs(2, 0);
        x.pay(1, 1);
        Due.is("chances(0, 0, 0xc0)", x.chances(0, 0, 0xc0), 0);
        Due.is("gain(0, 0)", x.gain(0, 0), 12);
        Due.is("chances(0, 0, 0xb1)", x.chances(0, 0, 0xb1), 0);
        Due.is("gain(0, 0)", x.gain(0, 0), 11);
        Due.is("chances(0, 0, 0x0c)", x.chances(0, 0, 0x0c), 0);
        Due.is("gain(0, 0)", x.gain(0, 0), 0);
    }

    private static void chancesAreNot11() {
        Due.by("Promise 4: BAD: not 12 together, less");
        PaySteer x = withActs(3, 0);
        for (int row : new int[] {0, 1, 0xb, 0xb0, 0xb00, 0x344, 0x335}) {
            Due.is("chances(0, 0, " + row + ")", x.chances(0, 0, row), -2);
        }
    }

    private static void chancesAreNot13() {
        Due.by("Promise 4: BAD: not 12 together, more");
        PaySteer x = withActs(3, 0);
        for (int row : new int[] {0xd, 0xd0, 0xd00, 0x1c, 0x346, 0xccc, 0xfff, 0xf, 0x888}) {
            Due.is("chances(0, 0, " + row + ")", x.chances(0, 0, row), -2);
        }
    }

    private static void aDigitOfNoSightOfTwo() {
        Due.by("Promise 4: BAD: a digit of no SIGHT, of two");
        PaySteer x = withActs(2, 0);
        for (int row : new int[] {0x166, 0x165, 0xc00, 0x1066, 0x10066, 0x100066, 0x1000066, 0x10000066, 0x80000066}) {
            Due.is("chances(0, 0, " + row + ")", x.chances(0, 0, row), -2);
        }
        Due.is("chances(0, 0, 0x66)", x.chances(0, 0, 0x66), 0);
    }

    private static void aDigitOfNoSightOfThree() {
        Due.by("Promise 4: BAD: a digit of no SIGHT, of three");
        PaySteer x = withActs(3, 0);
        for (int row : new int[] {0x1444, 0x1443, 0xc000, 0x10444, 0x80000444, -1, MIN, MAX}) {
            Due.is("chances(0, 0, " + row + ")", x.chances(0, 0, row), -2);
        }
        Due.is("chances(0, 0, 0x444)", x.chances(0, 0, 0x444), 0);
    }

    private static void aDigitOfNoSightOfFour() {
        Due.by("Promise 4: BAD: a digit of no SIGHT, of four");
        PaySteer x = withActs(4, 0);
        for (int row : new int[] {0x13333, 0x13332, 0xc0000, 0x103333, 0x10003333, 0x80003333, -1, MIN, MAX}) {
            Due.is("chances(0, 0, " + row + ")", x.chances(0, 0, row), -2);
        }
        Due.is("chances(0, 0, 0x3333)", x.chances(0, 0, 0x3333), 0);
    }

    private static void noChancesOfNoAct() {
        Due.by("Promise 4: NONE, no such ACT");
        PaySteer x = withActs(2, 0, 0);
        for (int a : new int[] {-1, 2, 3, 4, MIN, MAX}) {
            Due.is("chances(" + a + ", 0, 12)", x.chances(a, 0, 12), -1);
        }
    }

    private static void noChancesInNoWorld() {
        Due.by("Promise 4: NONE, no such WORLD");
        PaySteer x = withActs(2, 0, 0);
        for (int world : new int[] {-1, 2, MIN, MAX}) {
            Due.is("chances(0, " + world + ", 12)", x.chances(0, world, 12), -1);
        }
        Due.is("chances(0, 0, 12)", x.chances(0, 0, 12), 0);
        Due.is("chances(0, 1, 12)", x.chances(0, 1, 12), 0);
    }

    private static void chancesNoneAheadOfBad() {
        Due.by("Part 7: of several the first one told: chances, NONE ahead of BAD");
        PaySteer x = withActs(2, 0);
        Due.is("chances(1, 0, 13)", x.chances(1, 0, 13), -1);
        Due.is("chances(0, 2, 0x166)", x.chances(0, 2, 0x166), -1);
    }

    private static void eachWorldHasItsOwnChances() {
        Due.by("Part 1: an ACT has for each WORLD CHANCES");
        PaySteer x = withActs(2, 0, 0);
        x.pay(1, 1);
        x.chances(1, 1, 0x75);
        Due.is("gain(1, 1)", x.gain(1, 1), 7);
        Due.is("gain(1, 0)", x.gain(1, 0), 0);
        Due.is("gain(0, 1)", x.gain(0, 1), 0);
        x.chances(1, 0, 0x48);
        Due.is("gain(1, 0)", x.gain(1, 0), 4);
        Due.is("gain(1, 1)", x.gain(1, 1), 7);
    }

    private static void refusedChancesChangeNothing() {
        Due.by("Part 7: refusals change nothing: chances");
        PaySteer x = withActs(3, 0);
        x.pay(0, 1);
        x.pay(1, 20);
        x.pay(2, 300);
        x.chances(0, 0, 0x345);
        for (int row : new int[] {0x445, 0x443, 0x1444, 0}) {
            x.chances(0, 0, row);
        }
        x.chances(0, 2, 0x444);
        x.chances(1, 0, 0x444);
        Due.is("gain(0, 0)", x.gain(0, 0), 5 + 80 + 900);
        Due.is("gain(0, 1)", x.gain(0, 1), 12);
    }

    // ---- promise 5

    private static void value() {
        aValueIs0AtFirst();
        aValueIsMinus99AtLeast();
        aValueIs99AtMost();
        noValueOfNoSight();
        refusedValuesChangeNothing();
    }

    private static void aValueIs0AtFirst() {
        Due.by("Part 1: VALUE, 0 at first; promise 5: what it was");
        PaySteer x = new PaySteer(2);
        for (int k = 0; k < 4; k++) {
            Due.is("value(" + k + ", 5)", x.value(k, 5 + k), 0);
        }
        for (int k = 0; k < 4; k++) {
            Due.is("value(" + k + ", 0)", x.value(k, 0), 5 + k);
        }
    }

    private static void aValueIsMinus99AtLeast() {
        Due.by("Promise 5: -1000: BAD; VALUE from -99 on");
        PaySteer x = new PaySteer(0);
        Due.is("value(0, -100)", x.value(0, -100), -1000);
        Due.is("value(0, MIN)", x.value(0, MIN), -1000);
        Due.is("value(0, -99)", x.value(0, -99), 0);
        Due.is("value(0, 0)", x.value(0, 0), -99);
    }

    private static void aValueIs99AtMost() {
        Due.by("Promise 5: -1000: BAD; VALUE up to 99");
        PaySteer x = new PaySteer(0);
        Due.is("value(0, 100)", x.value(0, 100), -1000);
        Due.is("value(0, MAX)", x.value(0, MAX), -1000);
        Due.is("value(0, 99)", x.value(0, 99), 0);
        Due.is("value(0, 0)", x.value(0, 0), 99);
    }

    private static void noValueOfNoSight() {
        Due.by("Promise 5: -1000: NONE");
        for (int sights = 2; sights <= 4; sights++) {
            PaySteer x = new PaySteer(sights - 2);
            for (int sight : new int[] {-1, sights, sights + 1, MIN, MAX}) {
                Due.is("of " + sights + ": value(" + sight + ", 1)", x.value(sight, 1), -1000);
            }
        }
    }

    private static void refusedValuesChangeNothing() {
        Due.by("Part 7: refusals change nothing: value");
        PaySteer x = new PaySteer(0);
        x.value(0, 3);
        x.value(1, 4);
        x.value(0, 100);
        x.value(1, -100);
        x.value(2, 5);
        Due.is("value(0, 3)", x.value(0, 3), 3);
        Due.is("value(1, 4)", x.value(1, 4), 4);
    }

    // ---- promise 6

    private static void reserve() {
        theReserveIs0AtFirst();
        aReserveIs0AtLeast();
        aReserveIs99AtMost();
        refusedReservesChangeNothing();
    }

    private static void theReserveIs0AtFirst() {
        Due.by("Part 1: RESERVE, 0 at first; promise 6: what it was");
        PaySteer x = new PaySteer(0);
        Due.is("reserve(4)", x.reserve(4), 0);
        Due.is("reserve(5)", x.reserve(5), 4);
    }

    private static void aReserveIs0AtLeast() {
        Due.by("Promise 6: BAD; RESERVE from 0 on");
        PaySteer x = new PaySteer(0);
        x.reserve(6);
        Due.is("reserve(-1)", x.reserve(-1), -2);
        Due.is("reserve(MIN)", x.reserve(MIN), -2);
        Due.is("reserve(0)", x.reserve(0), 6);
        Due.is("count(2)", x.count(2), 0);
    }

    private static void aReserveIs99AtMost() {
        Due.by("Promise 6: BAD; RESERVE up to 99");
        PaySteer x = new PaySteer(0);
        Due.is("reserve(100)", x.reserve(100), -2);
        Due.is("reserve(MAX)", x.reserve(MAX), -2);
        Due.is("reserve(99)", x.reserve(99), 0);
        Due.is("count(2)", x.count(2), 99);
    }

    private static void refusedReservesChangeNothing() {
        Due.by("Part 7: refusals change nothing: reserve");
        PaySteer x = new PaySteer(0);
        x.reserve(6);
        x.reserve(-1);
        x.reserve(100);
        Due.is("reserve(6)", x.reserve(6), 6);
    }

    // ---- promise 7

    private static void pay() {
        payIs0AtFirst();
        aPayIs0AtLeast();
        aPayIs999AtMost();
        noPayAtNoSight();
        payNoneAheadOfBad();
        refusedPayChangesNothing();
    }

    private static void payIs0AtFirst() {
        Due.by("Promise 7: PAY that is told, 0 at first: what it was");
        PaySteer x = new PaySteer(2);
        for (int k = 0; k < 4; k++) {
            Due.is("pay(" + k + ", 5)", x.pay(k, 5 + k), 0);
        }
        for (int k = 0; k < 4; k++) {
            Due.is("pay(" + k + ", 0)", x.pay(k, 0), 5 + k);
        }
    }

    private static void aPayIs0AtLeast() {
        Due.by("Promise 7: BAD; PAY from 0 on");
        PaySteer x = new PaySteer(0);
        x.pay(0, 9);
        Due.is("pay(0, -1)", x.pay(0, -1), -2);
        Due.is("pay(0, MIN)", x.pay(0, MIN), -2);
        Due.is("pay(0, 0)", x.pay(0, 0), 9);
        Due.is("pay(0, 1)", x.pay(0, 1), 0);
    }

    private static void aPayIs999AtMost() {
        Due.by("Promise 7: BAD; PAY up to 999");
        PaySteer x = new PaySteer(0);
        Due.is("pay(0, 1000)", x.pay(0, 1000), -2);
        Due.is("pay(0, MAX)", x.pay(0, MAX), -2);
        Due.is("pay(0, 999)", x.pay(0, 999), 0);
        Due.is("pay(0, 1)", x.pay(0, 1), 999);
    }

    private static void noPayAtNoSight() {
        Due.by("Promise 7: NONE");
        for (int sights = 2; sights <= 4; sights++) {
            PaySteer x = new PaySteer(sights - 2);
            for (int sight : new int[] {-1, sights, sights + 1, MIN, MAX}) {
                Due.is("of " + sights + ": pay(" + sight + ", 1)", x.pay(sight, 1), -1);
            }
        }
    }

    private static void payNoneAheadOfBad() {
        Due.by("Part 7: of several the first one told: pay, NONE ahead of BAD");
        PaySteer x = new PaySteer(0);
        Due.is("pay(2, 1000)", x.pay(2, 1000), -1);
        Due.is("pay(-1, -1)", x.pay(-1, -1), -1);
    }

    private static void refusedPayChangesNothing() {
        Due.by("Part 7: refusals change nothing: pay");
        PaySteer x = new PaySteer(0);
        x.pay(0, 3);
        x.pay(1, 4);
        x.pay(0, 1000);
        x.pay(1, -1);
        x.pay(2, 5);
        Due.is("pay(0, 3)", x.pay(0, 3), 3);
        Due.is("pay(1, 4)", x.pay(1, 4), 4);
    }

    // ---- promise 8

    private static void gain() {
        gainIsTimes12();
        aGainMayBeBelow0();
        theGreatestGain();
        noGainOfNoAct();
        noGainInNoWorld();
    }

    private static void gainIsTimes12() {
        Due.by("Promise 8: GAIN .. times 12: MEAN PAY less COST");
        PaySteer x = withActs(3, 4);
        x.chances(0, 0, 0x525);
        x.pay(0, 1);
        x.pay(1, 10);
        x.pay(2, 100);
        Due.is("gain(0, 0)", x.gain(0, 0), 5 + 20 + 500 - 48);
        Due.is("gain(0, 1)", x.gain(0, 1), 12 - 48);
    }

    private static void aGainMayBeBelow0() {
        Due.by("Promise 8: a GAIN below 0, just 0 and above");
        PaySteer x = withActs(2, 7);
        x.chances(0, 0, 0xb1);
        Due.is("nothing paid", x.gain(0, 0), -84);
        x.pay(0, 84);
        Due.is("just 0", x.gain(0, 0), 0);
        x.pay(0, 83);
        Due.is("a twelfth below", x.gain(0, 0), -1);
        x.pay(0, 85);
        Due.is("a twelfth above", x.gain(0, 0), 1);
    }

    private static void theGreatestGain() {
        Due.by("Promise 8: the greatest and the least GAIN");
        PaySteer x = withActs(2, 0, 99);
        x.pay(0, 999);
        Due.is("gain(0, 1)", x.gain(0, 1), 11988);
        x.pay(0, 0);
        Due.is("gain(1, 1)", x.gain(1, 1), -1188);
    }

    private static void noGainOfNoAct() {
        Due.by("Promise 8: NO, no such ACT");
        PaySteer x = withActs(2, 0, 0);
        for (int a : new int[] {-1, 2, 3, 4, MIN, MAX}) {
            Due.is("gain(" + a + ", 0)", x.gain(a, 0), NO);
        }
    }

    private static void noGainInNoWorld() {
        Due.by("Promise 8: NO, no such WORLD");
        PaySteer x = withActs(2, 0);
        for (int world : new int[] {-1, 2, MIN, MAX}) {
            Due.is("gain(0, " + world + ")", x.gain(0, world), NO);
        }
    }

    // ---- promise 9

    private static void answer() {
        theGreatestGainAnswers();
        ofSeveralTheBetterForTheOneWhoHires();
        ofTheseTheLeastNumber();
        theAnswerHasNoReserve();
        noAnswerInNoWorld();
        noAnswerOfNoAct();
    }

    private static void theGreatestGainAnswers() {
        Due.by("Part 1: THE ANSWER: the ACT with the greatest GAIN in a WORLD");
        PaySteer x = withActs(2, 1, 1, 1);
        x.chances(1, 0, 0xb1);
        x.chances(2, 1, 0xb1);
        x.value(1, -99);
        x.pay(0, 12);
        x.pay(1, 13);
        Due.is("11 twelfths more", x.answer(0), 1);
        Due.is("in world 1", x.answer(1), 2);
        x.cost(1, 2);
        Due.is("a twelfth less", x.answer(0), 0);
        x.cost(0, 99);
        x.cost(1, 99);
        x.cost(2, 98);
        Due.is("below 0, still the greatest", x.answer(0), 2);
    }

    private static void ofSeveralTheBetterForTheOneWhoHires() {
        Due.by("Part 1: THE ANSWER: of several the one that is better for the one who hires");
        PaySteer x = withActs(2, 10, 0);
        x.chances(0, 0, 0x66);
        x.pay(1, 20);
        // Both gains are 0. Act 0 is paid 120, and is worth 6 v more.
        Due.is("paid 120 for nothing", x.answer(0), 1);
        x.value(1, 21);
        Due.is("126 for 120", x.answer(0), 0);
        x.value(1, 20);
        Due.is("120 for 120", x.answer(0), 0);
        x.value(1, 19);
        Due.is("114 for 120", x.answer(0), 1);
        x.value(0, -1);
        Due.is("108 for 120 against -12", x.answer(0), 0);
    }

    private static void ofTheseTheLeastNumber() {
        Due.by("Part 1: THE ANSWER: of several of these the least number");
        PaySteer x = withActs(2, 3, 3, 3, 3);
        Due.is("all alike", x.answer(0), 0);
        x.cost(0, 4);
        Due.is("three alike", x.answer(0), 1);
        x.cost(1, 4);
        Due.is("the last two", x.answer(0), 2);
        Due.is("in world 1", x.answer(1), 2);
    }

    private static void theAnswerHasNoReserve() {
        Due.by("Promise 9: THE ANSWER is told below RESERVE, too");
        PaySteer x = withActs(2, 9, 3);
        x.reserve(99);
        Due.is("answer(0)", x.answer(0), 1);
    }

    private static void noAnswerInNoWorld() {
        Due.by("Promise 9: NONE: WORLD");
        PaySteer x = withActs(2, 0);
        for (int world : new int[] {-1, 2, MIN, MAX}) {
            Due.is("answer(" + world + ")", x.answer(world), -1);
        }
    }

    private static void noAnswerOfNoAct() {
        Due.by("Promise 9: NONE: no ACT");
        PaySteer x = new PaySteer(0);
        Due.is("answer(0)", x.answer(0), -1);
        Due.is("answer(1)", x.answer(1), -1);
        x.act(100);
        Due.is("answer(0), no act yet", x.answer(0), -1);
        x.act(99);
        Due.is("answer(0), one act", x.answer(0), 0);
        Due.is("answer(1), one act", x.answer(1), 0);
    }
}
