/** Promises 32 to 36: the tape and contracts, by runs worked out by hand. */
public final class TapeTest {
    private static final int MIN = Integer.MIN_VALUE;
    private static final int MAX = Integer.MAX_VALUE;

    private TapeTest() {
    }

    public static void main(String[] args) {
        promise32();
        promise33();
        promise33Faults();
        promise33Depth();
        promise34();
        promise34Limits();
        promise35();
        promise36();
        Due.end("TapeTest");
    }

    /** Feeds a text byte by byte, and answers what contract() does. */
    static int read(PaySteer x, String text) {
        for (int i = 0; i < text.length(); i++) {
            x.feed(text.charAt(i), 1);
        }
        return x.contract();
    }

    private static void promise32() {
        PaySteer x = new PaySteer(0);
        Due.is("none is there", x.count(5), 0);
        Due.is("feed(.., 0)", x.feed(5, 0), -2);
        Due.is("feed(.., 9)", x.feed(5, 9), -2);
        Due.is("feed(.., -1)", x.feed(5, -1), -2);
        Due.is("feed(.., MIN)", x.feed(5, MIN), -2);
        Due.is("feed(.., MAX)", x.feed(5, MAX), -2);
        Due.is("1*", x.feed(0x312aL, 2), 2);
        Due.is("the lowest byte of many", x.feed(0x7f7f7f7f7f7f7f73L, 1), 3);
        Due.is("+v*10-2, 8 bytes of them", x.feed(0x2b762a31302d3230L, 8), 11);
        Due.is("count(5)", x.count(5), 11);
        x.value(1, 7);
        Due.is("1*s+v*10-20", x.contract(), 0);
        Due.is("by order", x.worth(0, 1), 51);
        Due.is("count(5)", x.count(5), 0);
        for (int i = 1; i <= 14; i++) {
            Due.is("8 more", x.feed(0x3131313131313131L, 8), 8 * i);
        }
        Due.is("9 are bad", x.feed(0, 9), -2);
        Due.is("7 more", x.feed(0, 7), 119);
        Due.is("2 more", x.feed(0, 2), -4);
        Due.is("bad ahead of full", x.feed(0, 0), -2);
        Due.is("1 more", x.feed(0, 1), 120);
        Due.is("and 1 more", x.feed(0, 1), -4);
        Due.is("count(5)", x.count(5), 120);
        Due.is("a fifth digit", x.contract(), -14);
        Due.is("8 fit again", x.feed(0, 8), 8);
    }

    private static void promise33() {
        PaySteer x = new PaySteer(0);
        Due.is("an empty tape", x.contract(), -10);
        String[] texts = {"0", "9999", "s", "v", "min(1,2)", "max(s,v)", "if(1<2,3,4)", "((((((1))))))"};
        for (int k = 0; k < 7; k++) {
            Due.is(texts[k], read(x, texts[k]), k);
            Due.is("the tape is empty then", x.count(5), 0);
            Due.is("contracts", x.count(3), k + 1);
        }
        Due.is("six open", read(x, texts[7]), -15);
        Due.is("contracts", x.count(3), 7);
        Due.is("the eighth", read(x, "(((((1)))))"), 7);
        Due.is("the ninth", read(x, "17"), -4);
        Due.is("the tape stays", x.count(5), 2);
        Due.is("again", x.contract(), -4);
        Due.is("the eighth pays", x.worth(7, 0), 1);
    }

    private static void promise33Faults() {
        PaySteer x = new PaySteer(0);
        String[] faulty = {"", "+", "1+", "1++1", "1-", "1*", "1**1", "12345", "1234+12345", " 1", "1 ", "1)", "(1",
            "(1))", "()", "s1", "1s", "sv", "m", "mi", "min", "min(", "min(1", "min(1,", "min(1,2", "min(1)",
            "min(1,2,3)", "man", "mix(1,2)", "max1", "i", "if", "if(", "if(1", "if(1,", "if(1<2", "if(1<2<", "if(1<2,3",
            "if(1<2,3,", "if(1<2,3,4", "if(1<2,3)", "if(1<2,3,4,5)", "1<2", "1,2", "x", "S", "MIN(1,2)", "-1", "(-1)",
            "1+-1", "minn(1,2)", "min (1,2)", "1.5", "s*", "v+v+", "2(3)", "(2)3", "if(s<v,1,2", "iff(", "mm", "ms",
            "max(1,2)1", "1\u0000", "\u00ff", "1\u00b1", "sin"};
        int[] fault = {0, 0, 2, 2, 2, 2, 2, 4, 9, 0, 1, 1, 2,
            3, 1, 1, 1, 1, 1, 2, 3, 4, 5, 6, 7, 5,
            7, 2, 2, 3, 1, 2, 3, 4, 4, 6, 6, 8,
            9, 10, 8, 10, 1, 1, 0, 0, 0, 0, 1,
            2, 3, 3, 1, 2, 4, 1, 3, 10, 2, 1, 1,
            8, 1, 0, 1, 1};
        for (int i = 0; i < faulty.length; i++) {
            Due.is("'" + faulty[i] + "'", read(x, faulty[i]), -10 - fault[i]);
            Due.is("the tape is empty then", x.count(5), 0);
        }
        Due.is("no contract", x.count(3), 0);
    }

    private static void promise33Depth() {
        PaySteer x = new PaySteer(0);
        Due.is("five of each kind", read(x, "min(max(if((s*(2))<1,1,2),3),4)"), 0);
        Due.is("five side by side", read(x, "(1)+(2)+(3)+(4)+(5)+(6)"), 1);
        Due.is("six: a min's", read(x, "(((((min(1,2))))))"), -18);
        Due.is("six: an if's", read(x, "(((((if(1<2,3,4))))))"), -17);
        Due.is("six: behind others", read(x, "max((1),((((2)+(s)+(v)+((3))))))"), -10 - 24);
        Due.is("six: no ( at all", read(x, "(((((min"), -18);
        Due.is("six: another fault ahead", read(x, "(((((mon"), -16);
        StringBuilder many = new StringBuilder();
        for (int i = 0; i < 120; i++) {
            many.append('(');
        }
        Due.is("120 open", read(x, many.toString()), -15);
        Due.is("contracts", x.count(3), 2);
    }

    private static void paysAt(PaySteer x, String text, int sight, int due) {
        int k = read(x, text);
        Due.is(text + " at " + sight, x.worth(k, sight), due);
    }

    private static void promise34() {
        PaySteer x = new PaySteer(2);
        x.value(2, 40);
        x.value(3, -50);
        paysAt(x, "2+3*4", 0, 14);
        paysAt(x, "20-3-4", 0, 13);
        paysAt(x, "(2+3)*4", 0, 20);
        paysAt(x, "s", 3, 3);
        paysAt(x, "v", 2, 40);
        paysAt(x, "v+60", 3, 10);
        paysAt(x, "if(v<0,v*v,7)", 3, 999);
        paysAt(x, "if(s<2,10,if(s<3,20,30))", 3, 30);
        Due.is("worth(7, 2)", x.worth(7, 2), 20);
        Due.is("worth(7, 1)", x.worth(7, 1), 10);
        Due.is("worth(7, 0)", x.worth(7, 0), 10);
        Due.is("worth(4, 3), kept at 0", x.worth(4, 3), 0);
        x.value(2, 41);
        Due.is("by value as it is now", x.worth(4, 2), 41);
        int[] none = {-1, 8, MIN, MAX};
        for (int no : none) {
            Due.is("contract " + no, x.worth(no, 0), -1);
        }
        int[] noSights = {-1, 4, MIN, MAX};
        for (int no : noSights) {
            Due.is("sight " + no, x.worth(0, no), -1);
        }
        PaySteer fresh = new PaySteer(0);
        Due.is("no contract", fresh.worth(0, 0), -1);
        paysAt(fresh, "min(s,2-3)+5", 1, 4);
        paysAt(fresh, "max(s,2-3)+5", 1, 6);
        paysAt(fresh, "if(s<1,1,2)", 1, 2);
        paysAt(fresh, "if(1<s,1,2)", 1, 2);
        paysAt(fresh, "0012", 0, 12);
        paysAt(fresh, "9999", 0, 999);
        paysAt(fresh, "1000-1", 0, 999);
        Due.is("no third sight", fresh.worth(0, 2), -1);
    }

    private static void promise34Limits() {
        PaySteer x = new PaySteer(0);
        paysAt(x, "9999*9999-9999*100-100", 0, 0);
        paysAt(x, "9999*9999-9999*100+100", 0, 200);
        paysAt(x, "(0-9999)*9999+9999*100+150", 0, 50);
        paysAt(x, "9999*9999*9999-9999*100", 0, 100);
        // A sum is kept within too: 1000000 + 1000000 is 1000000.
        paysAt(x, "9999*9999+9999*9999-9999*100", 0, 100);
        paysAt(x, "0-9999*9999-9999*9999+9999*100+150", 0, 50);
        paysAt(x, "if(0-9999*9999<9999*9999,5,6)", 0, 5);
        paysAt(x, "min(9999*9999,9999*100)-9999*100+1", 0, 1);
    }

    private static void promise35() {
        PaySteer x = new PaySteer(1);
        read(x, "s*10+v");
        read(x, "9999");
        x.value(2, -99);
        x.value(1, 4);
        Due.is("sign(0)", x.sign(0), 0);
        x.value(1, 5);
        Due.is("as it was when signed", x.pay(1, 3), 14);
        Due.is("kept at 0", x.pay(2, 3), 0);
        Due.is("at 0", x.pay(0, 3), 0);
        int[] none = {-1, 2, MIN, MAX};
        for (int no : none) {
            Due.is("sign " + no, x.sign(no), -1);
        }
        Due.is("it stays", x.pay(1, 3), 3);
        Due.is("sign(1)", x.sign(1), 0);
        Due.is("kept at 999", x.pay(0, 0), 999);
    }

    private static void promise36() {
        PaySteer x = new PaySteer(0);
        Due.is("no act, no contract", x.choose(0), -1);
        x.act(0);
        Due.is("no contract", x.choose(0), -1);
        read(x, "0");
        read(x, "s*12");
        read(x, "s*13");
        read(x, "s*12");
        x.act(6);
        x.chances(0, 0, 0x39);
        x.chances(1, 0, 0x93);
        x.pay(0, 500);
        Due.is("value 0: nothing is least", x.choose(0), 0);
        x.value(1, 40);
        // 10 with nothing, 30 - 9 with s*12, 30 - 9.75 with s*13.
        Due.is("the least of two that are best", x.choose(0), 1);
        x.reserve(4);
        // With s*12 act 1 has 9 - 6 = 3; with s*13 it has 3.75: none is enough.
        Due.is("none is enough", x.choose(0), -1);
        x.reserve(3);
        Due.is("just enough", x.choose(0), 1);
        x.cost(1, 7);
        // s*13 with act 1: 9.75 - 7 = 2.75, act 0: 3.25 - 0 is better; s*12: act 0 has 3.
        Due.is("with act 0 all the less", x.choose(0), 1);
        x.reserve(0);
        Due.is("pay that is told stays", x.pay(0, 0), 500);
        Due.is("world 1", x.choose(1), 0);
        int[] none = {-1, 2, MIN, MAX};
        for (int no : none) {
            Due.is("world " + no, x.choose(no), -1);
        }
        PaySteer noAct = new PaySteer(0);
        read(noAct, "1");
        Due.is("no act", noAct.choose(0), -1);
    }
}
