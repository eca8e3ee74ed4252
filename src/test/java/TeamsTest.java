/** Promises 23 to 31: teams, looks and contests, by runs worked out by hand. */
public final class TeamsTest {
    private static final int MIN = Integer.MIN_VALUE;
    private static final int MAX = Integer.MAX_VALUE;
    private static final long NO = Long.MIN_VALUE;

    private TeamsTest() {
    }

    public static void main(String[] args) {
        promise23();
        promise24();
        promise25();
        promise26();
        promise27();
        promise28();
        promise29();
        promise30();
        promise31();
        Due.end("TeamsTest");
    }

    private static int digits(int... all) {
        int sum = 0;
        for (int i = all.length - 1; i >= 0; i--) {
            sum = sum * 128 + all[i];
        }
        return sum;
    }

    private static void promise23() {
        PaySteer x = new PaySteer(0);
        Due.is("two", x.team(2, digits(99, 0), digits(0, 24)), 0);
        Due.is("three", x.team(3, digits(1, 2, 99), digits(8, 8, 8)), 0);
        Due.is("four", x.team(4, digits(1, 2, 3, 99), digits(6, 6, 6, 6)), 0);
        x.all(1, 24);
        int[] costs = {1, 2, 3, 99};
        for (int i = 0; i < 4; i++) {
            Due.is("member " + i, x.has(1 << i, i), 6 - costs[i]);
        }
        int[] noTeams = {1, 5, 0, -1, MIN, MAX};
        for (int n : noTeams) {
            Due.is("team of " + n, x.team(n, 0, 0), -2);
        }
        int[] badCosts = {100, digits(0, 100), digits(0, 127), digits(0, 0, 1), digits(0, 0, 0, 1), 1 << 28, -1, MIN,
            MAX};
        for (int bad : badCosts) {
            Due.is("costs " + bad, x.team(2, bad, 0), -2);
        }
        int[] badShares = {25, digits(12, 13), digits(0, 25), digits(0, 0, 1), 1 << 28, 1 << 31, -1, MAX};
        for (int bad : badShares) {
            Due.is("shares " + bad, x.team(2, 0, bad), -2);
        }
        Due.is("three, a digit more", x.team(3, digits(0, 0, 0, 1), 0), -2);
        Due.is("three, a share more", x.team(3, 0, digits(0, 0, 0, 1)), -2);
        Due.is("four, a bit more", x.team(4, 1 << 28, 0), -2);
        Due.is("four, another bit more", x.team(4, 0, 1 << 28), -2);
        Due.is("four, the last cost", x.team(4, digits(0, 0, 0, 100), 0), -2);
        Due.is("four, all shares", x.team(4, 0, digits(6, 6, 6, 7)), -2);
        Due.is("nothing changed", x.has(8, 3), -93);
        Due.is("less members", x.team(2, 0, 0), 0);
        Due.is("no such member", x.has(0, 2), -1);
    }

    private static void promise24() {
        PaySteer x = new PaySteer(0);
        for (int k = 0; k <= 4; k++) {
            Due.is("at first 0", x.all(k, 10 * k), 0);
        }
        for (int k = 0; k <= 4; k++) {
            Due.is("what it was", x.all(k, 999), 10 * k);
        }
        Due.is("all(0, 1000)", x.all(0, 1000), -2);
        Due.is("all(0, -1)", x.all(0, -1), -2);
        Due.is("all(5, 0)", x.all(5, 0), -1);
        Due.is("all(-1, 0)", x.all(-1, 0), -1);
        Due.is("all(5, 1000)", x.all(5, 1000), -1);
        Due.is("all(MIN, 0)", x.all(MIN, 0), -1);
        Due.is("all(MAX, 0)", x.all(MAX, 0), -1);
        Due.is("as it was", x.all(0, 0), 999);
        PaySteer fresh = new PaySteer(0);
        fresh.all(2, 999);
        Due.is("at first two members, costs 0, shares 0", fresh.has(3, 1), 0);
        Due.is("no third one", fresh.has(3, 2), -1);
    }

    private static void promise25() {
        PaySteer x = new PaySteer(0);
        x.team(3, digits(10, 20, 30), digits(5, 7, 1));
        x.all(0, 23);
        x.all(1, 47);
        x.all(2, 100);
        x.all(3, 999);
        Due.is("none, member 2", x.has(0, 2), 0);
        Due.is("none, member 1", x.has(0, 1), 6);
        Due.is("one, cut", x.has(1, 0), 9 - 10);
        Due.is("one, another", x.has(1, 1), 13);
        Due.is("two", x.has(6, 1), 29 - 20);
        Due.is("two, the other", x.has(6, 0), 20);
        Due.is("all", x.has(7, 2), 41 - 30);
        int[] bad = {8, 15, -1, MIN, MAX};
        for (int set : bad) {
            Due.is("set " + set, x.has(set, 0), -2);
            Due.is("no member, set " + set, x.has(set, 3), -1);
        }
        int[] none = {3, -1, MIN, MAX};
        for (int no : none) {
            Due.is("member " + no, x.has(0, no), -1);
        }
    }

    /** Two together have more by working, one alone has not. */
    private static PaySteer pair() {
        PaySteer x = new PaySteer(0);
        x.team(2, digits(5, 5), digits(12, 12));
        x.all(0, 0);
        x.all(1, 6);
        x.all(2, 20);
        return x;
    }

    private static void promise26() {
        PaySteer x = pair();
        Due.is("none works, alone", x.holds(0, 1), 1);
        Due.is("none works, sets", x.holds(0, 0), 0);
        Due.is("both work, alone", x.holds(3, 1), 1);
        Due.is("both work, sets", x.holds(3, 0), 1);
        Due.is("one works, alone", x.holds(1, 1), 0);
        Due.is("one works, sets", x.holds(2, 0), 0);
        x.all(2, 10);
        Due.is("alike is not more", x.holds(0, 0), 1);
        x.all(2, 12);
        Due.is("all would have more", x.holds(0, 0), 0);
        x.team(2, digits(5, 6), digits(12, 12));
        Due.is("just one would have more", x.holds(0, 0), 1);
        int[] none = {-1, 2, MIN, MAX};
        for (int no : none) {
            Due.is("how " + no, x.holds(0, no), -1);
            Due.is("how " + no + ", bad set", x.holds(4, no), -1);
        }
        int[] bad = {4, -1, MIN, MAX};
        for (int set : bad) {
            Due.is("set " + set, x.holds(set, 0), -2);
            Due.is("set " + set + ", alone", x.holds(set, 1), -2);
        }
    }

    private static void promise27() {
        PaySteer x = pair();
        Due.is("breaks(0)", x.breaks(0), 3);
        Due.is("breaks(1)", x.breaks(1), 1);
        Due.is("breaks(2)", x.breaks(2), 1);
        Due.is("breaks(3)", x.breaks(3), -1);
        // All work for 1 each and nothing: each set of them breaks it, the least is member 0.
        x.team(4, digits(1, 1, 1, 1), 0);
        Due.is("breaks(15)", x.breaks(15), 1);
        Due.is("breaks(12)", x.breaks(12), 4);
        Due.is("breaks(8)", x.breaks(8), 8);
        Due.is("breaks(0) of four", x.breaks(0), -1);
        Due.is("holds alone", x.holds(8, 1), 0);
        // Members 1 and 3 have more together, and each set with 0 or 2 has less.
        x.team(4, digits(99, 5, 99, 5), digits(0, 12, 0, 12));
        x.all(2, 20);
        Due.is("1 and 3", x.breaks(0), 10);
        int[] bad = {16, -1, MIN, MAX};
        for (int set : bad) {
            Due.is("set " + set, x.breaks(set), -2);
        }
        Due.is("a bit of none", pair().breaks(4), -2);
    }

    private static void promise28() {
        PaySteer x = new PaySteer(0);
        int[][] told = {{30, 70, 3, 10}, {5, 0, 1, 1}, {999, 999, 1, 2}, {1, 999, 1, 1000}, {999, 0, 1, 1},
            {7, 3, 7, 10}, {6, 3, 2, 3}};
        for (int[] t : told) {
            Due.is("look(" + t[0] + ", " + t[1] + ") above", x.look(t[0], t[1], 0), t[2]);
            Due.is("look(" + t[0] + ", " + t[1] + ") below", x.look(t[0], t[1], 1), t[3]);
        }
        int[] none = {-1, 1000, MIN, MAX};
        for (int no : none) {
            Due.is("x " + no, x.look(no, 1, 0), NO);
            Due.is("f " + no, x.look(1, no, 0), NO);
            Due.is("what " + no, x.look(1, 1, no), NO);
        }
        Due.is("x 0", x.look(0, 5, 0), NO);
        Due.is("what 2", x.look(1, 1, 2), NO);
    }

    private static void calmIs(PaySteer x, String told, int... due) {
        Due.is(told + " calms", x.calms(), due.length);
        for (int i = 0; i < due.length; i++) {
            Due.is(told + " calm(" + i + ")", x.calm(i), due[i]);
        }
        Due.is(told + " calm behind", x.calm(due.length), -1);
    }

    private static void promise29() {
        PaySteer x = new PaySteer(0);
        calmIs(x, "at first", 0);
        Due.is("all greatest", x.contest(999, 99, 99), 0);
        Due.is("all least", x.contest(0, 11, 0), 0);
        Due.is("prize 2", x.contest(2, 19, 0), 0);
        int[][] bad = {{-1, 11, 0}, {1000, 11, 0}, {0, 10, 0}, {0, 100, 0}, {0, 9, 0}, {0, 20, 0}, {0, 90, 0},
            {0, 0, 0}, {0, -11, 0}, {0, 11, -1}, {0, 11, 100}, {MIN, 11, 0}, {0, MAX, 0}, {0, MIN, 0}, {0, 11, MIN},
            {0, 1, 0}, {0, 111, 0}};
        for (int[] b : bad) {
            Due.is("contest " + b[0] + " " + b[1] + " " + b[2], x.contest(b[0], b[1], b[2]), -2);
        }
        calmIs(x, "nothing changed", 0, 10);
    }

    private static void promise30() {
        PaySteer x = new PaySteer(0);
        x.contest(2, 11, 0);
        calmIs(x, "prize 2", 0, 1, 10, 11);
        x.contest(2, 91, 0);
        calmIs(x, "dear for the first", 0, 1);
        // 9 ahead can't be made good: the first has the prize for nothing.
        x.contest(999, 11, 90);
        calmIs(x, "the first ahead", 0);
        x.contest(999, 11, 9);
        calmIs(x, "the second ahead", 0);
        x.contest(999, 11, 99);
        calmIs(x, "alike ahead", 88);
        x.contest(999, 77, 0);
        calmIs(x, "all strive", 88);
        x.contest(999, 88, 0);
        calmIs(x, "striving is too dear for both");
        x.contest(50, 11, 0);
        calmIs(x, "none is calm");
        // 8 ahead: with 8 the second can be alike, for half of 999 less 64.
        x.contest(999, 11, 80);
        calmIs(x, "8 ahead", new int[0]);
    }

    private static void promise31() {
        PaySteer x = new PaySteer(0);
        x.contest(2, 11, 0);
        int[] none = {-1, 4, 5, MIN, MAX};
        for (int no : none) {
            Due.is("calm(" + no + ")", x.calm(no), -1);
        }
        Due.is("calm(2)", x.calm(2), 10);
        Due.is("calm(1)", x.calm(1), 1);
    }
}
