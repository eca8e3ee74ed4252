/** Promises 32 to 36: each sentence that names an edge has a test of its own, on objects of its own. */
public final class EdgesOfTapeTest {
    private static final int MIN = Integer.MIN_VALUE;
    private static final int MAX = Integer.MAX_VALUE;

    private EdgesOfTapeTest() {
    }

    public static void main(String[] args) {
        feed();
        contract();
        sums();
        atoms();
        open();
        ends();
        worth();
        limits();
        sign();
        choose();
        Due.end("EdgesOfTapeTest");
    }

    private static void feedText(PaySteer x, String text) {
        for (int i = 0; i < text.length(); i++) {
            x.feed(text.charAt(i), 1);
        }
    }

    private static int read(PaySteer x, String text) {
        feedText(x, text);
        return x.contract();
    }

    private static PaySteer with(String... texts) {
        PaySteer x = new PaySteer(0);
        for (String text : texts) {
            read(x, text);
        }
        return x;
    }

    private static void isRead(String text) {
        Due.is("'" + text + "'", read(new PaySteer(0), text), 0);
    }

    private static void faultIs(String text, int place) {
        PaySteer x = new PaySteer(0);
        Due.is("'" + text + "'", read(x, text), -10 - place);
        Due.is("'" + text + "', contracts", x.count(3), 0);
        Due.is("'" + text + "', the tape", x.count(5), 0);
    }

    private static void pays(String text, int due) {
        Due.is("'" + text + "'", with(text).worth(0, 0), due);
    }

    // ---- promise 32

    private static void feed() {
        theHighestOfTheLowestBytesComesFirst();
        nIs1To8();
        theTapeHas120Bytes();
        aFullTapeStays();
        feedBadAheadOfFull();
    }

    private static void theHighestOfTheLowestBytesComesFirst() {
        Due.by("Promise 32: the n lowest bytes of w, the highest first, come behind THE TAPE's");
        PaySteer x = new PaySteer(0);
        Due.is("987", x.feed(0x7f7f7f7f7f393837L, 3), 3);
        Due.is("-", x.feed(0xffffffffffffff2dL, 1), 4);
        Due.is("54", x.feed(0x3534, 2), 6);
        Due.is("contract()", x.contract(), 0);
        Due.is("987-54", x.worth(0, 0), 933);
        Due.is("100*9-80", x.feed(0x3130302a392d3830L, 8), 8);
        Due.is("contract()", x.contract(), 1);
        Due.is("100*9-80", x.worth(1, 0), 820);
    }

    private static void nIs1To8() {
        Due.by("Promise 32: BAD: n not 1 .. 8");
        PaySteer x = new PaySteer(0);
        Due.is("feed(.., 1)", x.feed(0x31, 1), 1);
        Due.is("feed(.., 8)", x.feed(0x31, 8), 9);
        for (int n : new int[] {0, -1, 9, 10, MIN, MAX}) {
            Due.is("feed(.., " + n + ")", x.feed(0x31, n), -2);
            Due.is("count(5)", x.count(5), 9);
        }
    }

    private static PaySteer almostFull(int bytes) {
        PaySteer x = new PaySteer(0);
        for (int i = 0; i < bytes; i++) {
            x.feed(i % 2 == 0 ? '1' : '+', 1);
        }
        return x;
    }

    private static void theTapeHas120Bytes() {
        Due.by("Promise 32: FULL; THE TAPE (bytes, 120 at most)");
        Due.is("8 behind 112", almostFull(112).feed(0, 8), 120);
        Due.is("8 behind 113", almostFull(113).feed(0, 8), -4);
        Due.is("1 behind 119", almostFull(119).feed(0, 1), 120);
        Due.is("2 behind 119", almostFull(119).feed(0, 2), -4);
        Due.is("1 behind 120", almostFull(120).feed(0, 1), -4);
        PaySteer x = almostFull(119);
        x.feed('+', 1);
        Due.is("120 bytes, the last one a +", x.contract(), -10 - 120);
        PaySteer y = almostFull(118);
        y.feed(0x3233, 2);
        Due.is("120 bytes", y.contract(), 0);
        Due.is("59 times 1, and 23", y.worth(0, 0), 82);
    }

    private static void aFullTapeStays() {
        Due.by("Part 7: refusals change nothing: feed");
        PaySteer x = almostFull(119);
        x.feed(0x2b2b, 2);
        x.feed(0, 0);
        x.feed(0, 9);
        Due.is("count(5)", x.count(5), 119);
        Due.is("contract()", x.contract(), 0);
        Due.is("60 times 1", x.worth(0, 0), 60);
    }

    private static void feedBadAheadOfFull() {
        Due.by("Part 7: of several the first one told: feed, BAD ahead of FULL");
        PaySteer x = almostFull(120);
        Due.is("feed(0, 0)", x.feed(0, 0), -2);
        Due.is("feed(0, 9)", x.feed(0, 9), -2);
        Due.is("feed(0, 8)", x.feed(0, 8), -4);
    }

    // ---- promise 33

    private static void contract() {
        contractsAreNumberedFrom0();
        contractsAre8AtMost();
        aFullShelfKeepsTheTape();
        theTapeIsEmptyThen();
        theTapeIsEmptyThenToo();
        aFaultChangesNoContract();
    }

    private static void contractsAreNumberedFrom0() {
        Due.by("Promise 33: its number; CONTRACTS are numbered from 0 on");
        PaySteer x = new PaySteer(0);
        for (int k = 0; k < 8; k++) {
            Due.is("contract()", read(x, "" + k), k);
            Due.is("count(3)", x.count(3), k + 1);
        }
        for (int k = 0; k < 8; k++) {
            Due.is("worth(" + k + ", 0)", x.worth(k, 0), k);
        }
    }

    private static void contractsAre8AtMost() {
        Due.by("Promise 33: FULL; CONTRACTS, 8 at most");
        PaySteer x = with("1", "2", "3", "4", "5", "6", "7");
        Due.is("the eighth", read(x, "8"), 7);
        Due.is("the ninth", read(x, "9"), -4);
        Due.is("count(3)", x.count(3), 8);
    }

    private static void aFullShelfKeepsTheTape() {
        Due.by("Part 7: refusals change nothing: contract");
        PaySteer x = with("1", "2", "3", "4", "5", "6", "7", "8");
        Due.is("the ninth", read(x, "999"), -4);
        Due.is("count(5)", x.count(5), 3);
        Due.is("again", x.contract(), -4);
        for (int k = 0; k < 8; k++) {
            Due.is("worth(" + k + ", 0)", x.worth(k, 0), k + 1);
        }
    }

    private static void theTapeIsEmptyThen() {
        Due.by("Promise 33: THE TAPE, which is empty then, is a CONTRACT");
        PaySteer x = with("123");
        Due.is("count(5)", x.count(5), 0);
        Due.is("an empty tape", x.contract(), -10);
        Due.is("what is fed stands alone", x.feed('7', 1), 1);
        Due.is("contract()", x.contract(), 1);
        Due.is("worth(1, 0)", x.worth(1, 0), 7);
        Due.is("worth(0, 0)", x.worth(0, 0), 123);
    }

    private static void theTapeIsEmptyThenToo() {
        Due.by("Promise 33: -10 less the FAULT (THE TAPE is empty then, too)");
        PaySteer x = new PaySteer(0);
        Due.is("12+", read(x, "12+"), -13);
        Due.is("count(5)", x.count(5), 0);
        Due.is("an empty tape", x.contract(), -10);
        Due.is("what is fed stands alone", x.feed('7', 1), 1);
        Due.is("contract()", x.contract(), 0);
        Due.is("worth(0, 0)", x.worth(0, 0), 7);
    }

    private static void aFaultChangesNoContract() {
        Due.by("Promise 33: a text with a FAULT is no CONTRACT");
        PaySteer x = with("11", "22");
        Due.is("x", read(x, "x"), -10);
        Due.is("count(3)", x.count(3), 2);
        Due.is("worth(1, 0)", x.worth(1, 0), 22);
        Due.is("worth(2, 0)", x.worth(2, 0), -1);
        Due.is("33", read(x, "33"), 2);
    }

    // ---- the grammar

    private static void sums() {
        aSumBeginsWithAProd();
        aSignNeedsAProd();
        aStarNeedsAnAtom();
        noBlanks();
        nothingElseStandsBehind();
    }

    private static void aSumBeginsWithAProd() {
        Due.by("Promise 33: SUM: PROD, + or -, PROD, ..: no sign ahead of the first");
        isRead("1+2-3+4");
        faultIs("-1", 0);
        faultIs("+1", 0);
        faultIs("*1", 0);
        faultIs("(-1)", 1);
        faultIs("min(-1,2)", 4);
        faultIs("min(1,+2)", 6);
        faultIs("if(-1<2,3,4)", 3);
    }

    private static void aSignNeedsAProd() {
        Due.by("Promise 33: a PROD behind each + or -");
        faultIs("1++2", 2);
        faultIs("1+-2", 2);
        faultIs("1-+2", 2);
        faultIs("1-)", 2);
        faultIs("1+*2", 2);
        faultIs("(1+)", 3);
    }

    private static void aStarNeedsAnAtom() {
        Due.by("Promise 33: PROD: ATOM*ATOM*..");
        isRead("1*2*3");
        isRead("s*v*(1)*min(1,2)");
        faultIs("1**2", 2);
        faultIs("1*+2", 2);
        faultIs("1*", 2);
        faultIs("(1*)", 3);
    }

    private static void noBlanks() {
        Due.by("Promise 33: no blanks");
        faultIs(" 1", 0);
        faultIs("1 ", 1);
        faultIs("1 +2", 1);
        faultIs("1+ 2", 2);
        faultIs("min (1,2)", 3);
        faultIs("min(1, 2)", 6);
        faultIs("m in(1,2)", 1);
        faultIs("1\n", 1);
    }

    private static void nothingElseStandsBehind() {
        Due.by("Promise 33: the first byte with which none begins so");
        faultIs("s1", 1);
        faultIs("1s", 1);
        faultIs("sv", 1);
        faultIs("2(3)", 1);
        faultIs("(2)3", 3);
        faultIs("(2)(3)", 3);
        faultIs("1)", 1);
        faultIs("(1))", 3);
        faultIs("1<2", 1);
        faultIs("1,2", 1);
        faultIs("1.5", 1);
        faultIs("1\u0000", 1);
        faultIs("1\u00b1", 1);
        faultIs("\u00ff", 0);
        faultIs("\u0000", 0);
        faultIs("x1+", 0);
    }

    private static void atoms() {
        anAtomHasUpTo4Digits();
        lettersAreAsTold();
        minAndMaxHaveTwo();
        ifHasFour();
        parenthesesHaveOne();
    }

    private static void anAtomHasUpTo4Digits() {
        Due.by("Promise 33: ATOM: 1 to 4 digits");
        isRead("0");
        isRead("9");
        isRead("9999");
        isRead("0000");
        faultIs("12345", 4);
        faultIs("00000", 4);
        faultIs("1+12345", 6);
        faultIs("1234s", 4);
        faultIs("/", 0);
        faultIs(":", 0);
        faultIs("1/", 1);
        faultIs("1:", 1);
    }

    private static void lettersAreAsTold() {
        Due.by("Promise 33: ATOM: s; v");
        isRead("s");
        isRead("v");
        faultIs("S", 0);
        faultIs("V", 0);
        faultIs("r", 0);
        faultIs("w", 0);
        faultIs("ss", 1);
        faultIs("vv", 1);
    }

    private static void minAndMaxHaveTwo() {
        Due.by("Promise 33: ATOM: min(SUM,SUM); max(SUM,SUM)");
        isRead("min(1+2,3*4)");
        isRead("max(s,v)");
        faultIs("min(1)", 5);
        faultIs("min(1,2,3)", 7);
        faultIs("min()", 4);
        faultIs("min(,2)", 4);
        faultIs("min(1,)", 6);
        faultIs("min(1<2)", 5);
        faultIs("max(1)", 5);
        faultIs("mon(1,2)", 1);
        faultIs("mix(1,2)", 2);
        faultIs("man(1,2)", 2);
        faultIs("minn(1,2)", 3);
        faultIs("min1", 3);
        faultIs("maxi", 3);
        faultIs("MIN(1,2)", 0);
    }

    private static void ifHasFour() {
        Due.by("Promise 33: ATOM: if(SUM<SUM,SUM,SUM)");
        isRead("if(1+2<3*4,s,v)");
        faultIs("if(1,2,3,4)", 4);
        faultIs("if(1<2<3,4)", 6);
        faultIs("if(1<2,3)", 8);
        faultIs("if(1<2,3,4,5)", 10);
        faultIs("if(1<2,3<4)", 8);
        faultIs("if(1>2,3,4)", 4);
        faultIs("if()", 3);
        faultIs("if(1<,2,3)", 5);
        faultIs("iff(", 2);
        faultIs("in", 1);
        faultIs("if1", 2);
    }

    private static void parenthesesHaveOne() {
        Due.by("Promise 33: ATOM: (SUM)");
        isRead("(1)");
        isRead("(1+2)*(3)");
        faultIs("()", 1);
        faultIs("(1,2)", 2);
        faultIs("(1<2)", 2);
        faultIs(")", 0);
    }

    private static void open() {
        fiveAreOpenAtOnce();
        aSixthIsOneTooMany();
        whatIsClosedIsOpenNoMore();
    }

    private static void fiveAreOpenAtOnce() {
        Due.by("Promise 33: at most 5 ( are open at once");
        isRead("(((((1)))))");
        isRead("min(min(min(min(min(1,2),3),4),5),6)");
        isRead("max(1,max(2,max(3,max(4,max(5,6)))))");
        isRead("if(1<2,3,if(1<2,3,if(1<2,3,if(1<2,3,if(1<2,3,4)))))");
        isRead("(min(1,(max(2,if(1<2,3,4)))))");
    }

    private static void aSixthIsOneTooMany() {
        Due.by("Promise 33: a ( too many: its place");
        faultIs("((((((1))))))", 5);
        faultIs("((((((", 5);
        faultIs("(((((min(1,2))))))", 8);
        faultIs("(((((max(", 8);
        faultIs("(((((if(1<2,3,4))))))", 7);
        faultIs("min(1,min(1,min(1,min(1,min(1,(2))))))", 30);
        faultIs("(((((1+(2))))))", 7);
        faultIs("(((((1*(2))))))", 7);
        faultIs("if(1<(2),3,((((((4))))))", 15);
    }

    private static void whatIsClosedIsOpenNoMore() {
        Due.by("Promise 33: open at once: what is closed is open no more");
        isRead("(1)+(2)+(3)+(4)+(5)+(6)+(7)");
        isRead("(((((1)))))*(((((2)))))");
        isRead("((((min(1,2)+max(3,4)*if(1<2,3,4)-(5)))))");
        faultIs("((((min(1,2)+((3))))))", 14);
    }

    private static void ends() {
        theEndOfTheTapeIfItEndsTooEarly();
        anEmptyTape();
        eachBeginningOfAContract();
    }

    private static void theEndOfTheTapeIfItEndsTooEarly() {
        Due.by("Promise 33: the end of THE TAPE, if it ends too early");
        faultIs("1+", 2);
        faultIs("(", 1);
        faultIs("(1", 2);
        faultIs("(((((", 5);
        faultIs("(((((m", 6);
        faultIs("m", 1);
        faultIs("mi", 2);
        faultIs("ma", 2);
        faultIs("min", 3);
        faultIs("min(1,2", 7);
        faultIs("i", 1);
        faultIs("if", 2);
        faultIs("if(1<2,3,4", 10);
    }

    private static void anEmptyTape() {
        Due.by("Promise 33: an empty TAPE ends too early");
        PaySteer x = new PaySteer(0);
        Due.is("contract()", x.contract(), -10);
        Due.is("again", x.contract(), -10);
        Due.is("count(3)", x.count(3), 0);
    }

    private static boolean endsAsAContract(String text) {
        char last = text.charAt(text.length() - 1);
        int open = 0;
        for (int i = 0; i < text.length(); i++) {
            open += text.charAt(i) == '(' ? 1 : text.charAt(i) == ')' ? -1 : 0;
        }
        return open == 0 && (last == ')' || last == 's' || last == 'v' || last >= '0' && last <= '9');
    }

    private static void eachBeginningOfAContract() {
        Due.by("Promise 33: each beginning of a CONTRACT has no FAULT but its end");
        String whole = "v*10+if(s-1<max(v,2),min(12,(s)*3),9999-v)-((s+1))*v";
        for (int length = 1; length <= whole.length(); length++) {
            String text = whole.substring(0, length);
            if (endsAsAContract(text)) {
                isRead(text);
            } else {
                faultIs(text, length);
            }
        }
    }

    // ---- promise 34

    private static void worth() {
        sIsTheSightsNumber();
        vIsTheValueAsItIsNow();
        ifTakesTheThirdIfLess();
        paidIs0AtLeast();
        paidIs999AtMost();
        worthOfNoContract();
        worthAtNoSight();
    }

    private static void sIsTheSightsNumber() {
        Due.by("Promise 34: s (the SIGHT's number)");
        PaySteer x = new PaySteer(2);
        read(x, "s*10+1");
        for (int sight = 0; sight < 4; sight++) {
            Due.is("worth(0, " + sight + ")", x.worth(0, sight), 10 * sight + 1);
        }
    }

    private static void vIsTheValueAsItIsNow() {
        Due.by("Promise 34: v (its VALUE), by VALUE as it is now");
        PaySteer x = with("v+100");
        Due.is("at first", x.worth(0, 1), 100);
        x.value(1, 99);
        Due.is("99", x.worth(0, 1), 199);
        x.value(1, -99);
        Due.is("-99", x.worth(0, 1), 1);
        Due.is("the other sight's", x.worth(0, 0), 100);
    }

    private static void ifTakesTheThirdIfLess() {
        Due.by("Promise 34: the third one, if the first is less than the second, else the fourth");
        pays("if(1<2,3,4)", 3);
        pays("if(2<2,3,4)", 4);
        pays("if(3<2,3,4)", 4);
        pays("if(0-1<0,3,4)", 3);
        pays("if(0-9999*9999<9999*9999,3,4)", 3);
        pays("if(9999*9999<0-9999*9999,3,4)", 4);
        pays("if(9999*9999<9999*9999*2,3,4)", 4);
    }

    private static void paidIs0AtLeast() {
        Due.by("Promise 34: within 0 .. 999: 0 at least");
        pays("0-1", 0);
        pays("0", 0);
        pays("1", 1);
        pays("0-9999*9999", 0);
    }

    private static void paidIs999AtMost() {
        Due.by("Promise 34: within 0 .. 999: 999 at most");
        pays("998", 998);
        pays("999", 999);
        pays("1000", 999);
        pays("9999*9999", 999);
    }

    private static void worthOfNoContract() {
        Due.by("Promise 34: NONE, no such CONTRACT");
        Due.is("no contract", new PaySteer(0).worth(0, 0), -1);
        PaySteer x = with("1", "2");
        Due.is("the last one", x.worth(1, 0), 2);
        for (int k : new int[] {-1, 2, 7, 8, MIN, MAX}) {
            Due.is("worth(" + k + ", 0)", x.worth(k, 0), -1);
        }
    }

    private static void worthAtNoSight() {
        Due.by("Promise 34: NONE, no such SIGHT");
        for (int sights = 2; sights <= 4; sights++) {
            PaySteer x = new PaySteer(sights - 2);
            read(x, "5");
            Due.is("the last one", x.worth(0, sights - 1), 5);
            for (int sight : new int[] {-1, sights, sights + 1, MIN, MAX}) {
                Due.is("of " + sights + ": worth(0, " + sight + ")", x.worth(0, sight), -1);
            }
        }
    }

    private static void limits() {
        aSumIs1000000AtMost();
        aDifferenceIsMinus1000000AtLeast();
        aProductIs1000000AtMost();
        aProductIsMinus1000000AtLeast();
        eachStepIsKeptWithin();
        minAndMaxOfWhatIsKeptWithin();
    }

    private static void aSumIs1000000AtMost() {
        Due.by("Promise 34: each sum is kept within .. 1000000");
        pays("9999*100+99-9999*100", 99);
        pays("9999*100+100-9999*100", 100);
        pays("9999*100+101-9999*100", 100);
        pays("9999*100+9999*100-9999*100", 100);
    }

    private static void aDifferenceIsMinus1000000AtLeast() {
        Due.by("Promise 34: each difference is kept within -1000000 ..");
        pays("0-9999*100-99+9999*100+150", 51);
        pays("0-9999*100-100+9999*100+150", 50);
        pays("0-9999*100-101+9999*100+150", 50);
        pays("0-9999*100-9999*100+9999*100+150", 50);
    }

    private static void aProductIs1000000AtMost() {
        Due.by("Promise 34: each product is kept within .. 1000000");
        pays("999*1001-9999*100", 99);
        pays("1000*1000-9999*100", 100);
        pays("1000*1001-9999*100", 100);
        pays("9999*9999-9999*100", 100);
    }

    private static void aProductIsMinus1000000AtLeast() {
        Due.by("Promise 34: each product is kept within -1000000 ..");
        pays("(0-999)*1001+9999*100+150", 51);
        pays("(0-1000)*1000+9999*100+150", 50);
        pays("1001*(0-1000)+9999*100+150", 50);
    }

    private static void eachStepIsKeptWithin() {
        Due.by("Promise 34: each is kept within, one by one from the left");
        pays("9999*9999*0+7", 7);
        pays("9999*9999*(0-1)+9999*100+150", 50);
        pays("9999*9999*9999*9999*9999-9999*100", 100);
        pays("9999*9999-9999*9999+5", 5);
        pays("9999*9999+1-1-9999*100", 99);
        pays("10-3-2", 5);
        pays("2+3*4-1", 13);
    }

    private static void minAndMaxOfWhatIsKeptWithin() {
        Due.by("Promise 34: each min, max is kept within");
        pays("min(9999*9999,9999*9999)-9999*100", 100);
        pays("max(0-9999*9999,0-9999*9999)+9999*100+150", 50);
        pays("min(3,4)", 3);
        pays("min(4,3)", 3);
        pays("max(3,4)", 4);
        pays("max(4,3)", 4);
        pays("max(0-4,0-3)+10", 7);
        pays("min(5,5)", 5);
    }

    // ---- promise 35

    private static void sign() {
        payIsAsTheContractsIsNow();
        signAtEachSight();
        signOfNoContract();
        refusedSignChangesNothing();
    }

    private static void payIsAsTheContractsIsNow() {
        Due.by("Promise 35: PAY that is told is as a CONTRACT's is now");
        PaySteer x = with("v");
        x.value(1, 4);
        Due.is("sign(0)", x.sign(0), 0);
        x.value(1, 5);
        Due.is("it stays", x.pay(1, 7), 4);
        Due.is("sign(0), again", x.sign(0), 0);
        Due.is("pay(1, 0)", x.pay(1, 0), 5);
    }

    private static void signAtEachSight() {
        Due.by("Promise 35: PAY at each SIGHT, within 0 .. 999");
        PaySteer x = new PaySteer(2);
        read(x, "s*600-100");
        x.sign(0);
        Due.is("pay(0, 0)", x.pay(0, 0), 0);
        Due.is("pay(1, 0)", x.pay(1, 0), 500);
        Due.is("pay(2, 0)", x.pay(2, 0), 999);
        Due.is("pay(3, 0)", x.pay(3, 0), 999);
    }

    private static void signOfNoContract() {
        Due.by("Promise 35: NONE");
        Due.is("no contract", new PaySteer(0).sign(0), -1);
        PaySteer x = with("1", "2");
        for (int k : new int[] {-1, 2, 8, MIN, MAX}) {
            Due.is("sign(" + k + ")", x.sign(k), -1);
        }
    }

    private static void refusedSignChangesNothing() {
        Due.by("Part 7: refusals change nothing: sign");
        PaySteer x = with("1", "2");
        x.sign(1);
        x.sign(2);
        x.sign(-1);
        Due.is("pay(0, 2)", x.pay(0, 2), 2);
        Due.is("pay(1, 2)", x.pay(1, 2), 2);
    }

    // ---- promise 36

    private static void choose() {
        mostForTheOneWhoHires();
        theLeastOfSeveralContracts();
        gainNotBelowReserve();
        mostMayBeBelow0();
        chooseInNoWorld();
        chooseWithoutAnAct();
        chooseWithoutAContract();
        payThatIsToldStays();
    }

    /** Act 1 costs 6 and makes sight 1, worth 40, come with 9 of 12 where act 0 makes it come with 3. */
    private static PaySteer hiring(String... texts) {
        PaySteer x = with(texts);
        x.act(0);
        x.act(6);
        x.chances(0, 0, 0x39);
        x.chances(1, 0, 0x93);
        x.value(1, 40);
        return x;
    }

    private static void mostForTheOneWhoHires() {
        Due.by("Promise 36: with THE ANSWER to it, the one who hires has most");
        // Nothing: act 0, 10. s*12: act 1, as it is better for the one who hires, 30 - 9. s*11: act 0, 10 - 2.75.
        Due.is("0, s*12", hiring("0", "s*12").choose(0), 1);
        Due.is("s*12, 0", hiring("s*12", "0").choose(0), 0);
        Due.is("0, s*11", hiring("0", "s*11").choose(0), 0);
        Due.is("s*13, s*12", hiring("s*13", "s*12").choose(0), 1);
        Due.is("in world 1", hiring("s*12+1", "s*13").choose(1), 1);
    }

    private static void theLeastOfSeveralContracts() {
        Due.by("Promise 36: of several the least");
        Due.is("three alike", hiring("5", "s*12", "s*12", "12*s").choose(0), 1);
        Due.is("all alike in world 1", hiring("s", "s*2", "s*3").choose(1), 0);
    }

    private static void gainNotBelowReserve() {
        Due.by("Promise 36: of those in which the GAIN of THE ANSWER is not below RESERVE");
        PaySteer x = hiring("0", "s*12", "s*16");
        // Act 1 has 9 - 6 with s*12, 12 - 6 with s*16.
        x.reserve(3);
        Due.is("just 3", x.choose(0), 1);
        x.reserve(4);
        Due.is("3 is below 4", x.choose(0), 2);
        x.reserve(6);
        Due.is("just 6", x.choose(0), 2);
        x.reserve(7);
        Due.is("6 is below 7", x.choose(0), -1);
    }

    private static void mostMayBeBelow0() {
        Due.by("Promise 36: most, below 0, too");
        PaySteer x = hiring("30", "20", "25");
        x.value(1, -99);
        Due.is("choose(0)", x.choose(0), 1);
        Due.is("choose(1)", x.choose(1), 1);
    }

    private static void chooseInNoWorld() {
        Due.by("Promise 36: NONE: WORLD");
        PaySteer x = hiring("0");
        for (int world : new int[] {-1, 2, MIN, MAX}) {
            Due.is("choose(" + world + ")", x.choose(world), -1);
        }
    }

    private static void chooseWithoutAnAct() {
        Due.by("Promise 36: NONE: no ACT");
        PaySteer x = with("1");
        Due.is("choose(0)", x.choose(0), -1);
        Due.is("choose(1)", x.choose(1), -1);
        x.act(0);
        Due.is("one act", x.choose(0), 0);
    }

    private static void chooseWithoutAContract() {
        Due.by("Promise 36: NONE: no such CONTRACT");
        PaySteer x = hiring();
        Due.is("no contract", x.choose(0), -1);
        x.cost(0, 1);
        read(x, "0");
        Due.is("all are out", x.choose(0), -1);
        x.cost(0, 0);
        Due.is("just 0", x.choose(0), 0);
    }

    private static void payThatIsToldStays() {
        Due.by("Promise 36: PAY that is told stays");
        PaySteer x = hiring("7", "8");
        x.pay(0, 500);
        x.pay(1, 600);
        x.choose(0);
        Due.is("pay(0, 0)", x.pay(0, 0), 500);
        Due.is("pay(1, 0)", x.pay(1, 0), 600);
    }
}
