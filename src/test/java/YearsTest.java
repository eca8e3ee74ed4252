/** Promises 37 to 43: years, by runs worked out by hand. */
public final class YearsTest {
    private static final int MIN = Integer.MIN_VALUE;
    private static final int MAX = Integer.MAX_VALUE;
    private static final long NO = Long.MIN_VALUE;

    private YearsTest() {
    }

    public static void main(String[] args) {
        promise37();
        promise38();
        promise38Refused();
        promise39();
        promise40();
        promise41();
        promise42();
        promise43();
        Due.end("YearsTest");
    }

    private static void promise37() {
        PaySteer x = new PaySteer(0);
        Due.is("lot(65536)", x.lot(65536), 0);
        Due.is("lot(65537)", x.lot(65537), -2);
        Due.is("lot(-1)", x.lot(-1), -2);
        Due.is("lot(MIN)", x.lot(MIN), -2);
        Due.is("lot(MAX)", x.lot(MAX), -2);
        Due.is("lot(0)", x.lot(0), 65536);
        Due.is("lot(9)", x.lot(9), 0);
        x.act(0);
        x.year(0);
        Due.is("75 times 9 and 74", x.lot(65536), 749);
        x.year(0);
        // 75 times -1 and 74 is -1.
        Due.is("modulo 65537", x.lot(0), 65536);
    }

    /** One act, paid 7 and 5 at sights worth 30 and -20. */
    private static PaySteer paid() {
        PaySteer x = new PaySteer(0);
        x.act(2);
        x.pay(0, 7);
        x.pay(1, 5);
        x.value(0, 30);
        x.value(1, -20);
        return x;
    }

    private static void promise38() {
        // From 0 on the lot becomes 74, 5624, 28652, 51790 and these are 2, 8, 8, 10 modulo 12.
        PaySteer x = paid();
        x.chances(0, 0, 0x93);
        x.chances(0, 1, 0x48);
        Due.is("3 is above 2", x.year(0), 0);
        Due.is("8 is not above 8", x.year(1), 1);
        x.chances(0, 1, 0x39);
        Due.is("9 is above 8", x.year(1), 0);
        x.chances(0, 0, 0xc0);
        Due.is("0 is not above 10", x.year(0), 1);
        Due.is("count(4)", x.count(4), 4);
        Due.is("lot", x.lot(0), 51790 % 65537);
        x.chances(0, 0, 0x0c);
        Due.is("12 is above all", x.year(0), 0);
        x.lot(0);
        x.chances(0, 0, 0xa2);
        Due.is("2 is not above 2", x.year(0), 1);
        x.reserve(4);
        // Gain: 2 * 7 / 12 + 10 * 5 / 12 - 2 = 40 / 12 is below 4.
        Due.is("out", x.year(0), -3);
        Due.is("the year goes by", x.count(4), 7);
        Due.is("the lot becomes the next", x.lot(1), 5624);
        x.reserve(3);
        Due.is("not out", x.year(0), 1);
        PaySteer three = new PaySteer(1);
        three.act(0);
        three.chances(0, 0, 0x651);
        three.lot(0);
        Due.is("2 of 1, 5, 6", three.year(0), 1);
        Due.is("8 of 1, 5, 6", three.year(0), 2);
        three.chances(0, 0, 0x606);
        three.lot(0);
        Due.is("2 of 6, 0, 6", three.year(0), 0);
        Due.is("8 of 6, 0, 6", three.year(0), 2);
    }

    private static void promise38Refused() {
        PaySteer x = new PaySteer(0);
        Due.is("no act", x.year(0), -1);
        Due.is("no year", x.count(4), 0);
        Due.is("the lot stays", x.lot(0), 0);
        x.act(1);
        int[] none = {-1, 2, MIN, MAX};
        for (int no : none) {
            Due.is("world " + no, x.year(no), -1);
        }
        for (int i = 0; i < 60; i++) {
            Due.is("out", x.year(0), -3);
        }
        Due.is("count(4)", x.count(4), 60);
        int lot = x.lot(17);
        x.lot(lot);
        Due.is("full", x.year(0), -4);
        Due.is("full, world 2", x.year(2), -1);
        x.pay(0, 9);
        Due.is("full, not out", x.year(0), -4);
        Due.is("count(4)", x.count(4), 60);
        Due.is("the lot stays", x.lot(0), lot);
        Due.is("back", x.back(), 59);
        Due.is("room again", x.year(0), 0);
    }

    private static void promise39() {
        PaySteer x = paid();
        Due.is("none did", x.back(), -1);
        x.chances(0, 0, 0x66);
        x.lot(0);
        x.year(0);
        x.year(0);
        x.year(0);
        Due.is("account(1)", x.account(1), 17);
        x.lot(11);
        Due.is("back", x.back(), 2);
        Due.is("the lot right ahead of it", x.lot(5624), 5624);
        Due.is("account(1) without it", x.account(1), 12);
        Due.is("account(0) without it", x.account(0), -2);
        Due.is("no third year", x.then(2, 0), -1);
        x.lot(0);
        Due.is("another third year", x.year(0), 0);
        Due.is("then(2, 4)", x.then(2, 4), 74);
        Due.is("back", x.back(), 2);
        Due.is("lot", x.lot(3), 0);
        Due.is("back", x.back(), 1);
        Due.is("lot", x.lot(3), 74);
        Due.is("back", x.back(), 0);
        Due.is("none more", x.back(), -1);
        Due.is("the lot at first", x.lot(0), 0);
        Due.is("nothing had", x.account(0), 0);
        x.reserve(99);
        x.year(0);
        Due.is("back of a year out", x.back(), 0);
        Due.is("the lot ahead of that", x.lot(0), 0);
    }

    private static void thenIs(PaySteer x, int y, int... due) {
        for (int what = 0; what <= 4; what++) {
            Due.is("then(" + y + ", " + what + ")", x.then(y, what), due[what]);
        }
    }

    private static void promise40() {
        PaySteer x = paid();
        Due.is("no year", x.then(0, 0), -1);
        x.act(1);
        x.chances(1, 0, 0x66);
        x.chances(0, 1, 0x66);
        // Act 0: 84 - 24 = 60, act 1: 72 - 12 = 60; act 0 is worth more. In world 1 act 1: 84 - 12.
        x.year(0);
        x.year(1);
        x.cost(0, 0);
        x.year(1);
        x.reserve(99);
        x.year(1);
        x.pay(0, 100);
        x.year(0);
        x.reserve(0);
        x.pay(0, 0);
        x.pay(1, 80);
        x.year(1);
        thenIs(x, 0, 0, 0, 7, 0, 74);
        thenIs(x, 1, 1, 0, 7, 0, 5624);
        thenIs(x, 2, 1, 0, 7, 0, 28652);
        thenIs(x, 3, 1, -1, 0, 1, 51790);
        int fifth = (75 * 51790 + 74) % 65537;
        thenIs(x, 4, 0, 0, 100, 0, fifth);
        int sixth = (75 * fifth + 74) % 65537;
        thenIs(x, 5, 0, sixth % 12 < 6 ? 0 : 1, sixth % 12 < 6 ? 0 : 80, 0, sixth);
        int[] none = {-1, 6, 60, MIN, MAX};
        for (int no : none) {
            Due.is("year " + no, x.then(no, 0), -1);
        }
        int[] noWhats = {-1, 5, MIN, MAX};
        for (int no : noWhats) {
            Due.is("what " + no, x.then(0, no), -1);
        }
    }

    private static void promise41() {
        PaySteer x = paid();
        Due.is("account(0) at first", x.account(0), 0);
        Due.is("account(1) at first", x.account(1), 0);
        x.chances(0, 0, 0x66);
        x.lot(0);
        x.year(0);
        Due.is("30 - 7", x.account(0), 23);
        Due.is("7", x.account(1), 7);
        x.value(0, 99);
        x.pay(0, 900);
        Due.is("values as they were", x.account(0), 23);
        Due.is("paid as it was", x.account(1), 7);
        x.year(0);
        Due.is("-20 - 5", x.account(0), -2);
        Due.is("12", x.account(1), 12);
        x.reserve(99);
        x.pay(0, 0);
        Due.is("out", x.year(0), -3);
        Due.is("nothing had", x.account(0), -2);
        Due.is("nothing paid", x.account(1), 12);
        int[] none = {-1, 2, MIN, MAX};
        for (int no : none) {
            Due.is("account " + no, x.account(no), NO);
        }
    }

    private static void promise42() {
        PaySteer x = paid();
        x.act(90);
        x.chances(0, 0, 0x66);
        x.chances(1, 0, 0x84);
        x.chances(1, 1, 0x0c);
        Due.is("no year", x.likely(0, 0, 1), NO);
        // Sights 0, 1, 1.
        x.year(0);
        x.year(0);
        x.year(0);
        Due.is("the latest one", x.likely(1, 0, 1), 8);
        Due.is("two", x.likely(1, 0, 2), 64);
        Due.is("three", x.likely(1, 0, 3), 256);
        Due.is("act 0", x.likely(0, 0, 3), 216);
        Due.is("cannot be", x.likely(1, 1, 3), 0);
        x.reserve(99);
        x.year(0);
        Due.is("just out", x.likely(1, 0, 1), 1);
        Due.is("out is passed over", x.likely(1, 0, 3), 64);
        Due.is("all of them", x.likely(1, 0, 4), 256);
        x.chances(1, 0, 0x75);
        Due.is("chances as they are now", x.likely(1, 0, 4), 245);
        Due.is("above how many went by", x.likely(1, 0, 5), NO);
        int[] none = {-1, 2, MIN, MAX};
        for (int no : none) {
            Due.is("act " + no, x.likely(no, 0, 1), NO);
            Due.is("world " + no, x.likely(0, no, 1), NO);
        }
        int[] noNumbers = {0, -1, 17, MIN, MAX};
        for (int no : noNumbers) {
            Due.is("n " + no, x.likely(0, 0, no), NO);
        }
        x.reserve(0);
        x.chances(0, 0, 12);
        for (int i = 0; i < 16; i++) {
            x.year(0);
        }
        Due.is("16 of them", x.likely(0, 0, 16), 184884258895036416L);
        Due.is("17 are too many", x.likely(0, 0, 17), NO);
    }

    private static void promise43() {
        PaySteer x = paid();
        Due.is("no year", x.suspect(0, 1), -1);
        x.act(90);
        x.act(90);
        x.chances(0, 0, 0x66);
        x.chances(1, 0, 0x84);
        x.chances(2, 0, 0x84);
        x.chances(2, 1, 0x66);
        // Sights 0, 1, 1.
        x.year(0);
        x.year(0);
        x.year(0);
        Due.is("the least of two", x.suspect(0, 1), 1);
        Due.is("three", x.suspect(0, 3), 1);
        x.chances(1, 0, 0x93);
        Due.is("243 against 256", x.suspect(0, 3), 2);
        Due.is("81 against 64", x.suspect(0, 2), 1);
        Due.is("world 1", x.suspect(1, 2), 2);
        x.chances(2, 1, 12);
        Due.is("all are 0", x.suspect(1, 2), 0);
        int[] none = {-1, 2, MIN, MAX};
        for (int no : none) {
            Due.is("world " + no, x.suspect(no, 1), -1);
        }
        int[] noNumbers = {0, -1, 4, 17, MIN, MAX};
        for (int no : noNumbers) {
            Due.is("n " + no, x.suspect(0, no), -1);
        }
        Due.is("no act", new PaySteer(0).suspect(0, 1), -1);
    }
}
