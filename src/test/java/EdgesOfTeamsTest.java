/** Promises 23 to 31: each sentence that names an edge has a test of its own, on objects of its own. */
public final class EdgesOfTeamsTest {
    private static final int MIN = Integer.MIN_VALUE;
    private static final int MAX = Integer.MAX_VALUE;
    private static final long NO = Long.MIN_VALUE;

    private EdgesOfTeamsTest() {
    }

    public static void main(String[] args) {
        team();
        all();
        has();
        holds();
        breaks();
        look();
        contest();
        calms();
        calm();
        Due.end("EdgesOfTeamsTest");
    }

    private static int digits(int... all) {
        int sum = 0;
        for (int i = all.length - 1; i >= 0; i--) {
            sum = sum * 128 + all[i];
        }
        return sum;
    }

    /** A team of two with half of all each, that gets 0, one and both by how many work. */
    private static PaySteer pair(int cost0, int cost1, int one, int both) {
        PaySteer x = new PaySteer(0);
        x.team(2, digits(cost0, cost1), digits(12, 12));
        x.all(1, one);
        x.all(2, both);
        return x;
    }

    // ---- promise 23

    private static void team() {
        aTeamHas2Members();
        aTeamHas4Members();
        member0IsTheLowestDigit();
        costsOfMembersAre0To99();
        sharesAre24TogetherAtMost();
        aCostOfNoMember();
        aShareOfNoMember();
        whatAllGetStays();
        aBadTeamChangesNothing();
    }

    private static void aTeamHas2Members() {
        Due.by("Promise 23: BAD: n, from 2 on");
        PaySteer x = new PaySteer(0);
        Due.is("team(2, 0, 0)", x.team(2, 0, 0), 0);
        for (int n : new int[] {1, 0, -1, MIN}) {
            Due.is("team(" + n + ", 0, 0)", x.team(n, 0, 0), -2);
        }
    }

    private static void aTeamHas4Members() {
        Due.by("Promise 23: BAD: n, up to 4");
        PaySteer x = new PaySteer(0);
        Due.is("team(3, 0, 0)", x.team(3, 0, 0), 0);
        Due.is("has(0, 2)", x.has(0, 2), 0);
        Due.is("has(0, 3)", x.has(0, 3), -1);
        Due.is("team(4, 0, 0)", x.team(4, 0, 0), 0);
        Due.is("has(0, 3)", x.has(0, 3), 0);
        for (int n : new int[] {5, 6, MAX}) {
            Due.is("team(" + n + ", 0, 0)", x.team(n, 0, 0), -2);
        }
    }

    private static void member0IsTheLowestDigit() {
        Due.by("Promise 23: digits to the base 128 (member 0's the lowest)");
        PaySteer x = new PaySteer(0);
        Due.is("team(..)", x.team(4, 1 + 2 * 128 + 3 * 16384 + 4 * 2097152, 9 + 8 * 128 + 5 * 16384 + 2 * 2097152), 0);
        x.all(1, 24);
        Due.is("member 0", x.has(1, 0), 9 - 1);
        Due.is("member 1", x.has(2, 1), 8 - 2);
        Due.is("member 2", x.has(4, 2), 5 - 3);
        Due.is("member 3", x.has(8, 3), 2 - 4);
    }

    private static void costsOfMembersAre0To99() {
        Due.by("Promise 23: BAD: digits (costs 0 .. 99)");
        PaySteer x = new PaySteer(0);
        for (int n = 2; n <= 4; n++) {
            for (int i = 0; i < n; i++) {
                Due.is(n + ": 99", x.team(n, 99 << 7 * i, 0), 0);
                Due.is(n + ": 99 is had", x.has(1 << i, i), -99);
                Due.is(n + ": 100", x.team(n, 100 << 7 * i, 0), -2);
                Due.is(n + ": 127", x.team(n, 127 << 7 * i, 0), -2);
                Due.is(n + ": 0", x.team(n, 0, 0), 0);
                Due.is(n + ": 0 is had", x.has(1 << i, i), 0);
            }
        }
    }

    private static void sharesAre24TogetherAtMost() {
        Due.by("Promise 23: BAD: digits (shares 24 together at most)");
        PaySteer x = new PaySteer(0);
        for (int n = 2; n <= 4; n++) {
            for (int i = 0; i < n; i++) {
                Due.is(n + ": 24 of one", x.team(n, 0, 24 << 7 * i), 0);
                Due.is(n + ": 25 of one", x.team(n, 0, 25 << 7 * i), -2);
                Due.is(n + ": 127 of one", x.team(n, 0, 127 << 7 * i), -2);
            }
        }
        Due.is("12 and 12", x.team(2, 0, digits(12, 12)), 0);
        Due.is("12 and 13", x.team(2, 0, digits(12, 13)), -2);
        Due.is("6, 6, 6, 6", x.team(4, 0, digits(6, 6, 6, 6)), 0);
        Due.is("6, 6, 6, 7", x.team(4, 0, digits(6, 6, 6, 7)), -2);
        Due.is("none at all", x.team(4, 0, 0), 0);
    }

    private static void aCostOfNoMember() {
        Due.by("Promise 23: BAD: a digit of none, of the costs");
        PaySteer x = new PaySteer(0);
        Due.is("2: a third", x.team(2, 1 << 14, 0), -2);
        Due.is("2: a fourth", x.team(2, 1 << 21, 0), -2);
        Due.is("3: a fourth", x.team(3, 1 << 21, 0), -2);
        for (int n = 2; n <= 4; n++) {
            for (int digits : new int[] {1 << 28, 1 << 30, MIN, -1}) {
                Due.is(n + ": " + digits, x.team(n, digits, 0), -2);
            }
        }
    }

    private static void aShareOfNoMember() {
        Due.by("Promise 23: BAD: a digit of none, of the shares");
        PaySteer x = new PaySteer(0);
        Due.is("2: a third", x.team(2, 0, 1 << 14), -2);
        Due.is("2: a fourth", x.team(2, 0, 1 << 21), -2);
        Due.is("3: a fourth", x.team(3, 0, 1 << 21), -2);
        for (int n = 2; n <= 4; n++) {
            for (int digits : new int[] {1 << 28, 1 << 30, MIN, -1}) {
                Due.is(n + ": " + digits, x.team(n, 0, digits), -2);
            }
        }
    }

    private static void whatAllGetStays() {
        Due.by("Promise 23: a TEAM is told; what all get stays as it was told");
        PaySteer x = new PaySteer(0);
        for (int k = 0; k <= 4; k++) {
            x.all(k, 5 + k);
        }
        x.team(4, 0, 0);
        x.team(2, 0, 0);
        for (int k = 0; k <= 4; k++) {
            Due.is("all(" + k + ", 0)", x.all(k, 0), 5 + k);
        }
    }

    private static void aBadTeamChangesNothing() {
        Due.by("Part 7: refusals change nothing: team");
        PaySteer x = pair(3, 4, 24, 48);
        x.team(5, 0, 0);
        x.team(3, digits(1, 1, 100), digits(1, 1, 1));
        x.team(2, digits(1, 100), digits(1, 1));
        x.team(2, digits(1, 1), digits(1, 24));
        x.team(2, digits(1, 1, 1), digits(1, 1));
        Due.is("member 0", x.has(3, 0), 24 - 3);
        Due.is("member 1", x.has(3, 1), 24 - 4);
        Due.is("no third member", x.has(3, 2), -1);
    }

    // ---- promise 24

    private static void all() {
        allIsTold0To4();
        allGet0AtLeast();
        allGet999AtMost();
        allGet0AtFirst();
        theTeamAtFirst();
        allNoneAheadOfBad();
        refusedAllChangesNothing();
    }

    private static void allIsTold0To4() {
        Due.by("Promise 24: NONE: k not 0 .. 4");
        PaySteer x = new PaySteer(0);
        Due.is("all(0, 5)", x.all(0, 5), 0);
        Due.is("all(4, 5)", x.all(4, 5), 0);
        for (int k : new int[] {-1, 5, 6, MIN, MAX}) {
            Due.is("all(" + k + ", 5)", x.all(k, 5), -1);
        }
    }

    private static void allGet0AtLeast() {
        Due.by("Promise 24: BAD; g from 0 on");
        PaySteer x = new PaySteer(0);
        x.all(0, 7);
        Due.is("all(0, -1)", x.all(0, -1), -2);
        Due.is("all(0, MIN)", x.all(0, MIN), -2);
        Due.is("all(0, 0)", x.all(0, 0), 7);
        Due.is("all(0, 1)", x.all(0, 1), 0);
    }

    private static void allGet999AtMost() {
        Due.by("Promise 24: BAD; g up to 999");
        PaySteer x = new PaySteer(0);
        Due.is("all(0, 1000)", x.all(0, 1000), -2);
        Due.is("all(0, MAX)", x.all(0, MAX), -2);
        Due.is("all(0, 999)", x.all(0, 999), 0);
        Due.is("all(0, 1)", x.all(0, 1), 999);
    }

    private static void allGet0AtFirst() {
        Due.by("Promise 24: all are 0 at first: what it was");
        PaySteer x = new PaySteer(0);
        for (int k = 0; k <= 4; k++) {
            Due.is("all(" + k + ", 5)", x.all(k, 5 + k), 0);
        }
        for (int k = 0; k <= 4; k++) {
            Due.is("all(" + k + ", 0)", x.all(k, 0), 5 + k);
        }
    }

    private static void theTeamAtFirst() {
        Due.by("Promise 24: a TEAM has 2 members, 0, 0 at first");
        PaySteer x = new PaySteer(0);
        x.all(1, 999);
        x.all(2, 999);
        Due.is("no share, no cost, member 0", x.has(1, 0), 0);
        Due.is("no share, no cost, member 1", x.has(3, 1), 0);
        Due.is("no third member", x.has(0, 2), -1);
        Due.is("no third bit", x.has(4, 0), -2);
    }

    private static void allNoneAheadOfBad() {
        Due.by("Part 7: of several the first one told: all, NONE ahead of BAD");
        PaySteer x = new PaySteer(0);
        Due.is("all(5, 1000)", x.all(5, 1000), -1);
        Due.is("all(-1, -1)", x.all(-1, -1), -1);
    }

    private static void refusedAllChangesNothing() {
        Due.by("Part 7: refusals change nothing: all");
        PaySteer x = new PaySteer(0);
        x.all(0, 7);
        x.all(4, 8);
        x.all(0, -1);
        x.all(4, 1000);
        x.all(5, 9);
        x.all(-1, 9);
        Due.is("all(0, 7)", x.all(0, 7), 7);
        Due.is("all(4, 8)", x.all(4, 8), 8);
    }

    // ---- promise 25

    private static void has() {
        theShareIsCut();
        justThoseWhoWorkBearTheCost();
        allGetByHowManyWork();
        noSuchMember();
        aBitOfNone();
        hasNoneAheadOfBad();
    }

    private static void theShareIsCut() {
        Due.by("Promise 25: member i has s(i) of 24 of that, cut");
        PaySteer x = new PaySteer(0);
        x.team(2, digits(0, 30), digits(23, 1));
        int[][] told = {{0, 0, 0}, {1, 0, 0}, {23, 22, 0}, {24, 23, 1}, {25, 23, 1}, {47, 45, 1}, {48, 46, 2},
            {999, 957, 41}};
        for (int[] t : told) {
            x.all(0, t[0]);
            x.all(1, t[0]);
            Due.is("23 of 24 of " + t[0], x.has(0, 0), t[1]);
            Due.is("1 of 24 of " + t[0], x.has(0, 1), t[2]);
            Due.is("1 of 24 of " + t[0] + " less 30", x.has(2, 1), t[2] - 30);
        }
    }

    private static void justThoseWhoWorkBearTheCost() {
        Due.by("Promise 25: work costs member i c(i)");
        PaySteer x = pair(5, 7, 24, 48);
        Due.is("member 0 works", x.has(1, 0), 12 - 5);
        Due.is("member 1 does not", x.has(1, 1), 12);
        Due.is("member 1 works", x.has(2, 1), 12 - 7);
        Due.is("member 0 does not", x.has(2, 0), 12);
        Due.is("both work", x.has(3, 0), 24 - 5);
        Due.is("none works", x.has(0, 1), 0);
    }

    private static void allGetByHowManyWork() {
        Due.by("Promise 25: what all get is by how many work: g(0 .. n)");
        PaySteer x = new PaySteer(0);
        x.team(4, 0, 24 << 21);
        for (int k = 0; k <= 4; k++) {
            x.all(k, 10 + k);
        }
        for (int set = 0; set < 16; set++) {
            Due.is("has(" + set + ", 3)", x.has(set, 3), 10 + Integer.bitCount(set));
        }
    }

    private static void noSuchMember() {
        Due.by("Promise 25: NONE: member");
        PaySteer x = new PaySteer(0);
        for (int n = 2; n <= 4; n++) {
            x.team(n, 0, 0);
            Due.is("the last one", x.has(0, n - 1), 0);
            for (int i : new int[] {-1, n, n + 1, MIN, MAX}) {
                Due.is(n + ": has(0, " + i + ")", x.has(0, i), -1);
            }
        }
    }

    private static void aBitOfNone() {
        Due.by("Promise 25: BAD: a bit of none");
        PaySteer x = new PaySteer(0);
        for (int n = 2; n <= 4; n++) {
            x.team(n, 0, 0);
            Due.is("all of them", x.has((1 << n) - 1, 0), 0);
            for (int set : new int[] {1 << n, (1 << n) + 1, 1 << 30, -1, MIN, MAX}) {
                Due.is(n + ": has(" + set + ", 0)", x.has(set, 0), -2);
            }
        }
    }

    private static void hasNoneAheadOfBad() {
        Due.by("Part 7: of several the first one told: has, NONE ahead of BAD");
        PaySteer x = new PaySteer(0);
        Due.is("has(4, 2)", x.has(4, 2), -1);
        Due.is("has(-1, -1)", x.has(-1, -1), -1);
    }

    // ---- promise 26

    private static void holds() {
        alikeIsNotMore();
        allOfASetWouldHaveMore();
        aloneNoSingleOne();
        theOthersAreAsTheyAre();
        howIs0Or1();
        holdsOfABitOfNone();
        holdsNoneAheadOfBad();
    }

    private static void alikeIsNotMore() {
        Due.by("Promise 26: HOLDS, if they would not have more: alike holds");
        // To work brings 5 alone, and costs 5.
        Due.is("alone, alike", pair(5, 5, 10, 10).holds(0, 1), 1);
        Due.is("alone, 1 more", pair(5, 5, 12, 12).holds(0, 1), 0);
        Due.is("both, alike", pair(5, 5, 0, 10).holds(0, 0), 1);
        Due.is("both, 1 more", pair(5, 5, 0, 12).holds(0, 0), 0);
        Due.is("both work, alike without", pair(5, 5, 10, 20).holds(3, 1), 1);
        Due.is("both work, more without", pair(6, 6, 12, 22).holds(3, 1), 0);
    }

    private static void allOfASetWouldHaveMore() {
        Due.by("Promise 26: HOLDS against sets: a set of members who would all have more");
        Due.is("both would", pair(5, 5, 0, 12).holds(0, 0), 0);
        Due.is("just the first would", pair(5, 6, 0, 12).holds(0, 0), 1);
        Due.is("just the second would", pair(6, 5, 0, 12).holds(0, 0), 1);
    }

    private static void aloneNoSingleOne() {
        Due.by("Promise 26: HOLDS alone, if no single one would");
        PaySteer x = pair(5, 5, 6, 20);
        Due.is("alone none would", x.holds(0, 1), 1);
        Due.is("together they would", x.holds(0, 0), 0);
        PaySteer y = pair(5, 3, 8, 8);
        Due.is("just the second would", y.holds(0, 1), 0);
        Due.is("a single one is a set, too", y.holds(0, 0), 0);
    }

    private static void theOthersAreAsTheyAre() {
        Due.by("Promise 26: by working otherwise together (the others as they are)");
        PaySteer x = pair(5, 5, 6, 20);
        // One works: the other one joins for 10 less 5 instead of 3.
        Due.is("the other one joins, alone", x.holds(1, 1), 0);
        Due.is("the other one joins", x.holds(2, 0), 0);
        Due.is("both work", x.holds(3, 0), 1);
        // One rests while the other one works: 12 instead of 13 less 2.
        PaySteer y = pair(2, 2, 24, 26);
        Due.is("one rests", y.holds(3, 1), 0);
        Due.is("one works", y.holds(1, 1), 1);
        Due.is("one works, against sets", y.holds(1, 0), 1);
    }

    private static void howIs0Or1() {
        Due.by("Promise 26: NONE: how");
        PaySteer x = pair(5, 5, 0, 12);
        for (int how : new int[] {-1, 2, MIN, MAX}) {
            Due.is("holds(0, " + how + ")", x.holds(0, how), -1);
        }
    }

    private static void holdsOfABitOfNone() {
        Due.by("Promise 26: BAD: the set");
        PaySteer x = new PaySteer(0);
        for (int n = 2; n <= 4; n++) {
            x.team(n, 0, 0);
            Due.is("all of them", x.holds((1 << n) - 1, 0), 1);
            for (int set : new int[] {1 << n, 1 << 30, -1, MIN, MAX}) {
                Due.is(n + ": holds(" + set + ", 0)", x.holds(set, 0), -2);
                Due.is(n + ": holds(" + set + ", 1)", x.holds(set, 1), -2);
            }
        }
    }

    private static void holdsNoneAheadOfBad() {
        Due.by("Part 7: of several the first one told: holds, NONE ahead of BAD");
        PaySteer x = new PaySteer(0);
        Due.is("holds(4, 2)", x.holds(4, 2), -1);
        Due.is("holds(-1, -1)", x.holds(-1, -1), -1);
    }

    // ---- promise 27

    private static void breaks() {
        theLeastSetBreaks();
        noSetBreaks();
        breaksOfABitOfNone();
    }

    private static void theLeastSetBreaks() {
        Due.by("Promise 27: the FIRST set that breaks it: the least as a number (member i is bit i)");
        PaySteer x = new PaySteer(0);
        // Work costs 1 each, and brings nothing: each set of those who work breaks it.
        x.team(4, digits(1, 1, 1, 1), 0);
        for (int set = 1; set < 16; set++) {
            Due.is("breaks(" + set + ")", x.breaks(set), Integer.lowestOneBit(set));
        }
        // Two of them bring 10 for each of 1 and 3, which costs 5 each.
        x.team(4, digits(99, 5, 99, 5), digits(0, 12, 0, 12));
        x.all(2, 20);
        Due.is("1 and 3", x.breaks(0), 10);
        x.team(4, digits(5, 5, 99, 5), digits(8, 8, 0, 8));
        Due.is("0 and 1 ahead of 0 and 3", x.breaks(0), 3);
        x.team(3, digits(5, 5, 5), digits(8, 8, 8));
        x.all(2, 0);
        x.all(3, 18);
        Due.is("all three", x.breaks(0), 7);
        x.all(1, 18);
        Due.is("the first alone", x.breaks(0), 1);
    }

    private static void noSetBreaks() {
        Due.by("Promise 27: NONE: none");
        Due.is("none works for nothing", pair(5, 5, 0, 0).breaks(0), -1);
        Due.is("alike is not more", pair(5, 5, 0, 10).breaks(0), -1);
        Due.is("both work", pair(5, 5, 6, 20).breaks(3), -1);
    }

    private static void breaksOfABitOfNone() {
        Due.by("Promise 27: BAD: the set");
        PaySteer x = new PaySteer(0);
        for (int n = 2; n <= 4; n++) {
            x.team(n, 0, 0);
            Due.is("all of them", x.breaks((1 << n) - 1), -1);
            for (int set : new int[] {1 << n, 1 << 30, -1, MIN, MAX}) {
                Due.is(n + ": breaks(" + set + ")", x.breaks(set), -2);
            }
        }
    }

    // ---- promise 28

    private static void look() {
        lookIsAFraction();
        withoutAFine();
        xIs1To999();
        fIs0To999();
        lookWhatIs0Or1();
    }

    private static void lookIs(int x, int f, int above, int below) {
        PaySteer p = new PaySteer(0);
        Due.isPart("look(" + x + ", " + f + ")", p.look(x, f, 0), p.look(x, f, 1), above, below);
    }

    private static void lookIsAFraction() {
        Due.by("Promise 28: THE LEAST CHANCE, without a common divisor");
        lookIs(30, 70, 3, 10);
        lookIs(1, 1, 1, 2);
        lookIs(6, 3, 2, 3);
        lookIs(7, 3, 7, 10);
    }

    private static void withoutAFine() {
        Due.by("Promise 28: a fine of 0: each is looked at");
        lookIs(1, 0, 1, 1);
        lookIs(5, 0, 1, 1);
        lookIs(999, 0, 1, 1);
    }

    private static void xIs1To999() {
        Due.by("Promise 28: NO: x (1 .. 999)");
        lookIs(1, 999, 1, 1000);
        lookIs(999, 1, 999, 1000);
        PaySteer p = new PaySteer(0);
        for (int x : new int[] {0, -1, 1000, MIN, MAX}) {
            Due.is("look(" + x + ", 1, 0)", p.look(x, 1, 0), NO);
        }
    }

    private static void fIs0To999() {
        Due.by("Promise 28: NO: f (0 .. 999)");
        lookIs(999, 999, 1, 2);
        lookIs(3, 0, 1, 1);
        PaySteer p = new PaySteer(0);
        for (int f : new int[] {-1, 1000, MIN, MAX}) {
            Due.is("look(5, " + f + ", 0)", p.look(5, f, 0), NO);
        }
    }

    private static void lookWhatIs0Or1() {
        Due.by("Promise 28: NO: what");
        PaySteer p = new PaySteer(0);
        for (int what : new int[] {-1, 2, MIN, MAX}) {
            Due.is("look(1, 1, " + what + ")", p.look(1, 1, what), NO);
        }
    }

    // ---- promises 29 to 31

    private static void contest() {
        theContestAtFirst();
        thePrizeIs0To999();
        contestCostsAre1To9();
        headStartsAre0To9();
        aBadContestChangesNothing();
    }

    private static void calmAre(PaySteer x, String told, int... due) {
        Due.is(told + ": calms()", x.calms(), due.length);
        for (int i = 0; i < due.length; i++) {
            Due.is(told + ": calm(" + i + ")", x.calm(i), due[i]);
        }
        Due.is(told + ": one behind", x.calm(due.length), -1);
    }

    private static PaySteer rivals(int prize, int costs, int heads) {
        PaySteer x = new PaySteer(0);
        x.contest(prize, costs, heads);
        return x;
    }

    private static void theContestAtFirst() {
        Due.by("Promise 29: at first 0, 11, 0");
        PaySteer x = new PaySteer(0);
        calmAre(x, "no prize", 0);
        Due.is("as if told", x.contest(0, 11, 0), 0);
        calmAre(x, "as if told", 0);
    }

    private static void thePrizeIs0To999() {
        Due.by("Promise 29: BAD; the prize z (0 .. 999)");
        PaySteer x = new PaySteer(0);
        Due.is("0", x.contest(0, 11, 0), 0);
        Due.is("999", x.contest(999, 11, 0), 0);
        calmAre(x, "999", 88);
        for (int prize : new int[] {-1, 1000, MIN, MAX}) {
            Due.is("contest(" + prize + ", 11, 0)", x.contest(prize, 11, 0), -2);
        }
    }

    private static void contestCostsAre1To9() {
        Due.by("Promise 29: BAD; k(i) (1 .. 9), costs 10 k(0) + k(1)");
        PaySteer x = new PaySteer(0);
        for (int costs : new int[] {11, 19, 91, 99}) {
            Due.is("contest(0, " + costs + ", 0)", x.contest(0, costs, 0), 0);
        }
        for (int costs : new int[] {0, 1, 9, 10, 20, 30, 40, 50, 60, 70, 80, 90, 100, 101, 111, -1, -11, MIN, MAX}) {
            Due.is("contest(0, " + costs + ", 0)", x.contest(0, costs, 0), -2);
        }
    }

    private static void headStartsAre0To9() {
        Due.by("Promise 29: BAD; h(i) (0 .. 9), head starts 10 h(0) + h(1)");
        PaySteer x = new PaySteer(0);
        for (int heads : new int[] {0, 9, 10, 90, 99}) {
            Due.is("contest(0, 11, " + heads + ")", x.contest(0, 11, heads), 0);
        }
        for (int heads : new int[] {-1, -10, 100, 101, MIN, MAX}) {
            Due.is("contest(0, 11, " + heads + ")", x.contest(0, 11, heads), -2);
        }
    }

    private static void aBadContestChangesNothing() {
        Due.by("Part 7: refusals change nothing: contest");
        PaySteer x = rivals(2, 11, 0);
        x.contest(1000, 99, 99);
        x.contest(999, 10, 99);
        x.contest(999, 99, 100);
        calmAre(x, "as it was", 0, 1, 10, 11);
    }

    private static void calms() {
        wouldRatherHaveMeansMore();
        halfToEachIfAlike();
        effortsAre0To8();
        theHeadStartCounts();
        eachHasItsOwnCost();
        noneIsCalm();
    }

    private static void wouldRatherHaveMeansMore() {
        Due.by("Promise 30: CALM: neither would rather have another one: alike is calm");
        calmAre(rivals(1, 11, 0), "prize 1", 0);
        calmAre(rivals(2, 11, 0), "prize 2", 0, 1, 10, 11);
        calmAre(rivals(3, 11, 0), "prize 3", 11);
    }

    private static void halfToEachIfAlike() {
        Due.by("Promise 30: half to each if alike (all is told twice as great)");
        // The half of 1 is more than nothing, which 1 for the whole of it would leave.
        calmAre(rivals(1, 11, 0), "prize 1", 0);
        calmAre(rivals(1, 11, 99), "prize 1, alike ahead", 0);
        // 8 behind 8 is alike: half of 128 less 64 is nothing, half of 129 is more.
        calmAre(rivals(128, 11, 80), "prize 128", 0);
        calmAre(rivals(129, 11, 80), "prize 129");
    }

    private static void effortsAre0To8() {
        Due.by("Promise 30: efforts 0 .. 8");
        // With 9 one could have it all.
        calmAre(rivals(999, 77, 0), "both do 8", 88);
        calmAre(rivals(999, 88, 0), "8 is too dear for half of it");
        // 9 behind can't be made up.
        calmAre(rivals(999, 11, 90), "9 ahead", 0);
    }

    private static void theHeadStartCounts() {
        Due.by("Promise 30: the greater sum of effort and head start h(i)");
        calmAre(rivals(2, 11, 10), "the first 1 ahead", 0, 1);
        calmAre(rivals(2, 11, 1), "the second 1 ahead", 0, 10);
        calmAre(rivals(3, 11, 10), "1 ahead is too little");
        calmAre(rivals(999, 11, 9), "the second 9 ahead", 0);
        calmAre(rivals(999, 11, 99), "both 9 ahead", 88);
    }

    private static void eachHasItsOwnCost() {
        Due.by("Promise 30: cost: effort times effort times k(i)");
        calmAre(rivals(2, 91, 0), "dear for the first", 0, 1);
        calmAre(rivals(2, 19, 0), "dear for the second", 0, 10);
        calmAre(rivals(18, 99, 0), "dear for both", 0, 1, 10, 11);
        calmAre(rivals(17, 99, 0), "too dear for both", 0);
        calmAre(rivals(18, 91, 0), "just not too dear for the first", 1);
        calmAre(rivals(18, 19, 0), "just not too dear for the second", 10);
    }

    private static void noneIsCalm() {
        Due.by("Promise 30: how many efforts are CALM: none");
        Due.is("prize 50", rivals(50, 11, 0).calms(), 0);
        Due.is("the first one of none", rivals(50, 11, 0).calm(0), -1);
    }

    private static void calm() {
        numberedByTheFirstOnesEffort();
        noSuchCalmOne();
    }

    private static void numberedByTheFirstOnesEffort() {
        Due.by("Promise 31: numbered by the first one's effort, then the second one's");
        PaySteer x = rivals(2, 11, 0);
        Due.is("calm(0)", x.calm(0), 0);
        Due.is("calm(1)", x.calm(1), 1);
        Due.is("calm(2)", x.calm(2), 10);
        Due.is("calm(3)", x.calm(3), 11);
    }

    private static void noSuchCalmOne() {
        Due.by("Promise 31: NONE");
        PaySteer x = rivals(2, 11, 0);
        for (int i : new int[] {-1, 4, 5, MIN, MAX}) {
            Due.is("calm(" + i + ")", x.calm(i), -1);
        }
    }
}
