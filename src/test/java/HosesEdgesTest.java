/** The boundary cases that "What it is" and "Hoses" name: each has a test of its own, which quotes its sentence. */
public final class HosesEdgesTest extends Scene {

    public static void main(String[] args) {
        theUseOfAnObject();
        hoses();
        kinds();
        reasons();
        Check.end("HosesEdgesTest");
    }

    // ---- what it is

    private static void theUseOfAnObject() {
        all512CallsLetDaysPass();
        all512CallsFillAndClearTheBuffer();
        all512CallsSaveAState();
    }

    private static void all512CallsLetDaysPass() {
        Document.sentence("What it is", "An object is used for at most 512 calls after it has been made");
        HoseTests x = new HoseTests();
        x.buy(RUBBER, 5, 0);
        for (int call = 2; call < 512; call++) {
            Check.same("call " + call, x.pass(100), 100 * (call - 1));
        }
        Check.same("call 512", x.hose(0, 5), 0);
    }

    private static void all512CallsFillAndClearTheBuffer() {
        Document.sentence("What it is", "An object is used for at most 512 calls after it has been made");
        HoseTests x = new HoseTests();
        for (int call = 1; call <= 512; call++) {
            int inBuffer = call % 61;
            Check.same("call " + call, inBuffer == 0 ? x.clearBuffer() : x.append('n'), inBuffer == 0 ? 60 : inBuffer);
        }
    }

    private static void all512CallsSaveAState() {
        Document.sentence("What it is", "An object is used for at most 512 calls after it has been made");
        HoseTests x = new HoseTests();
        for (int call = 1; call <= 506; call++) {
            Check.same("call " + call, x.want(0, call % 200), call == 1 ? 60 : (call - 1) % 200);
        }
        for (int call = 507; call <= 511; call++) {
            Check.same("call " + call, x.undo(), 512 - call);
        }
        Check.same("call 512", x.want(0, 0), 501 % 200);
    }

    // ---- hoses

    private static void hoses() {
        divisionsAreRoundedDown();
        aShareIsNotRounded();
        atMost14Hoses();
        atMost14HosesByRenew();
        atMost14HosesByText();
        numberedFrom0();
        aBurstOneKeepsItsNumber();
        aRenewedOneKeepsItsNumber();
        kindIs0To2();
        lengthIs5To50();
        couplingIs0To2();
        wearStartsAt0();
        wearEndsAt99();
        lastDayOfATestOrNone();
        placesOfAHose();
        ageIsInFullHundreds();
    }

    private static void divisionsAreRoundedDown() {
        Document.sentence("Terms", "divisions are rounded down");
        strengthIs(LINEN, 9, 0, 16);
        strengthIs(LINEN, 10, 0, 15);
        strengthIs(RUBBER, 7, 0, 20);
        strengthIs(RUBBER, 8, 0, 19);
        strengthIs(LINED, 4, 0, 24);
        strengthIs(LINED, 5, 0, 23);
        strengthIs(RUBBER, 0, 100, 20);
        strengthIs(RUBBER, 0, 200, 19);
        // each division by itself: half of a bar and half of a bar are none
        strengthIs(RUBBER, 4, 100, 20);
    }

    /** Of a hose that is worn first and then lies in the store. */
    private static void strengthIs(int kind, int wear, int age, int due) {
        HoseTests x = new HoseTests();
        x.buy(kind, 5, 0);
        wearBy(x, 0, wear);
        passAll(x, age);
        Check.same("strength of kind " + kind + ", wear " + wear + ", age " + age, x.hose(0, 5), due);
    }

    private static void aShareIsNotRounded() {
        Document.sentence("Terms", "All numbers are integers, but for a share");
        HoseTests x = withHoses(3);
        x.test(2, 12);
        Check.sameShare("1 of 3", x.readyShare(), 1.0 / 3.0);
    }

    private static void atMost14Hoses() {
        Document.sentence("Hoses", "There are at most 14 hoses");
        HoseTests x = withHoses(13);
        Check.same("the 14th", x.buy(LINEN, 5, 0), 13);
        Check.refuses("a 15th", x, STATE, () -> x.buy(LINEN, 5, 0));
        Check.same("hoses", x.count(2), 14);
    }

    private static void atMost14HosesByRenew() {
        Document.sentence("Hoses", "There are at most 14 hoses");
        HoseTests x = withHoses(13);
        Check.same("the 14th", x.renew(0), 13);
        Check.refuses("a 15th", x, STATE, () -> x.renew(13));
        Check.same("hoses", x.count(2), 14);
        Check.same("gone ones", x.count(3), 1);
    }

    private static void atMost14HosesByText() {
        Document.sentence("Hoses", "There are at most 14 hoses");
        HoseTests x = withHoses(12);
        type(x, "n5a,n6b,n7c");
        Check.same("the 13th and the 14th", x.buyAll(), 2);
        Check.same("hoses", x.count(2), 14);
        hoseIs(x, 13, LINEN, 6, 1);
    }

    private static void numberedFrom0() {
        Document.sentence("Hoses", "numbered from 0 in the order in which they came");
        HoseTests x = rich();
        for (int h = 0; h < 14; h++) {
            Check.same("number", x.buy(h % 3, 5 + h, h / 5), h);
        }
        for (int h = 0; h < 14; h++) {
            hoseIs(x, h, h % 3, 5 + h, h / 5);
        }
        Check.refuses("hose 14", x, INDEX, () -> x.hose(14, 0));
        Check.refuses("hose -1", x, INDEX, () -> x.hose(-1, 0));
    }

    private static void aBurstOneKeepsItsNumber() {
        Document.sentence("Hoses",
                "a hose that has burst, or was given away for a new one, keeps its number, and is gone");
        HoseTests x = rich();
        x.buy(LINEN, 5, 0);
        x.buy(RUBBER, 6, 1);
        burst(x, 0);
        Check.same("the next number", x.buy(LINED, 7, 2), 2);
        hoseIs(x, 0, LINEN, 5, 0, 1000, 4, 16, NONE, NONE, NONE, 1);
        hoseIs(x, 1, RUBBER, 6, 1);
        hoseIs(x, 2, LINED, 7, 2);
    }

    private static void aRenewedOneKeepsItsNumber() {
        Document.sentence("Hoses",
                "a hose that has burst, or was given away for a new one, keeps its number, and is gone");
        HoseTests x = rich();
        x.buy(LINEN, 5, 0);
        x.buy(RUBBER, 6, 1);
        Check.same("the new one", x.renew(0), 2);
        hoseIs(x, 0, LINEN, 5, 0, 1000, 0, 16, NONE, NONE, NONE, 1);
        hoseIs(x, 1, RUBBER, 6, 1);
        hoseIs(x, 2, LINEN, 5, 0);
    }

    private static void kindIs0To2() {
        Document.sentence("Hoses", "A hose has a kind: 0, linen; 1, rubber; 2, lined");
        HoseTests x = rich();
        for (int kind = 0; kind <= 2; kind++) {
            Check.same("kind", x.hose(x.buy(kind, 5, 0), 0), kind);
        }
        Check.refuses("kind -1", x, ARGUMENT, () -> x.buy(-1, 5, 0));
        Check.refuses("kind 3", x, ARGUMENT, () -> x.buy(3, 5, 0));
    }

    private static void lengthIs5To50() {
        Document.sentence("Hoses", "a length, 5 to 50");
        HoseTests x = rich();
        Check.same("the least", x.hose(x.buy(LINEN, 5, 0), 1), 5);
        Check.same("the greatest", x.hose(x.buy(LINEN, 50, 0), 1), 50);
        Check.refuses("length 4", x, ARGUMENT, () -> x.buy(LINEN, 4, 0));
        Check.refuses("length 51", x, ARGUMENT, () -> x.buy(LINEN, 51, 0));
    }

    private static void couplingIs0To2() {
        Document.sentence("Hoses", "a coupling, 0 to 2");
        HoseTests x = rich();
        for (int coupling = 0; coupling <= 2; coupling++) {
            Check.same("coupling", x.hose(x.buy(LINEN, 5, coupling), 2), coupling);
        }
        Check.refuses("coupling -1", x, ARGUMENT, () -> x.buy(LINEN, 5, -1));
        Check.refuses("coupling 3", x, ARGUMENT, () -> x.buy(LINEN, 5, 3));
    }

    private static void wearStartsAt0() {
        Document.sentence("Hoses", "wear, 0 to 99");
        HoseTests x = new HoseTests();
        x.buy(LINED, 5, 0);
        Check.same("wear of a new one", x.hose(0, 4), 0);
    }

    private static void wearEndsAt99() {
        Document.sentence("Hoses", "wear, 0 to 99");
        HoseTests x = new HoseTests();
        x.buy(LINED, 5, 0);
        wearBy(x, 0, 99);
        Check.same("wear", x.hose(0, 4), 99);
        wearBy(x, 0, 1);
        Check.same("wear", x.hose(0, 4), 99);
    }

    private static void lastDayOfATestOrNone() {
        Document.sentence("Hoses", "the last day on which its test is in force (NONE: it has none)");
        HoseTests x = new HoseTests();
        x.buy(LINEN, 5, 0);
        Check.same("not tested", x.hose(0, 6), NONE);
        x.test(0, 12);
        Check.same("tested", x.hose(0, 6), 100);
        passAll(x, 101);
        Check.same("lapsed", x.hose(0, 6), 100);
    }

    private static void placesOfAHose() {
        Document.sentence("Hoses",
                "the store (3), a truck (0 to 2), or a station to which it is lent (4), with the day on which it comes "
                        + "back");
        HoseTests x = new HoseTests();
        x.buy(LINEN, 5, 0);
        hoseAt(x, STORE, NONE);
        x.test(0, 12);
        for (int truck = 0; truck <= 2; truck++) {
            x.put(0, truck);
            hoseAt(x, truck, NONE);
        }
        x.lend(0, 1);
        hoseAt(x, LENT, 1);
        x.pass(1);
        hoseAt(x, STORE, NONE);
        burst(x, 0);
        hoseAt(x, NONE, NONE);
    }

    private static void hoseAt(HoseTests x, int place, int back) {
        Check.same("place", x.hose(0, 7), place);
        Check.same("day on which it comes back", x.hose(0, 8), back);
    }

    private static void ageIsInFullHundreds() {
        Document.sentence("Hoses", "its age as the full hundreds of days since it was made");
        HoseTests x = atDay(50);
        x.buy(LINEN, 5, 0);
        passAll(x, 99);
        Check.same("99 days old", x.hose(0, 5), 16);
        x.pass(1);
        Check.same("100 days old", x.hose(0, 5), 15);
        x.pass(99);
        Check.same("199 days old", x.hose(0, 5), 15);
        x.pass(1);
        Check.same("200 days old", x.hose(0, 5), 14);
    }

    // ---- kinds

    private static void kinds() {
        strengthOfLinen();
        lifeOfLinen();
        testsOfLinen();
        costOfLinen();
        strengthOfRubber();
        lifeOfRubber();
        testsOfRubber();
        costOfRubber();
        strengthOfLined();
        lifeOfLined();
        testsOfLined();
        costOfLined();
        strengthIsAtLeast0ByAge();
        strengthIsAtLeast0ByWearAndAge();
    }

    private static void strengthOfLinen() {
        Document.sentence("Hoses", "linen: a strength of 16, less its wear divided by 10, less its age");
        strengthIs(LINEN, 0, 0, 16);
        strengthIs(LINEN, 19, 0, 15);
        strengthIs(LINEN, 20, 0, 14);
        strengthIs(LINEN, 99, 0, 7);
        strengthIs(LINEN, 0, 99, 16);
        strengthIs(LINEN, 0, 100, 15);
        strengthIs(LINEN, 99, 699, 1);
    }

    private static void lifeOfLinen() {
        Document.sentence("Hoses", "a life of 900 days");
        lifeIs(LINEN, 900);
    }

    private static void lifeIs(int kind, int life) {
        HoseTests x = atDay(10);
        x.set(0, 4);
        x.buy(kind, 5, 0);
        passAll(x, life - 1);
        x.test(0, 4);
        x.pass(1);
        Check.same("ready on the last day of its life", x.hose(0, 9), 0);
        x.pass(1);
        Check.same("too old on the next one", x.hose(0, 9), 3);
    }

    private static void testsOfLinen() {
        Document.sentence("Hoses", "a test is in force for 100 days");
        testIsInForce(LINEN, 100);
    }

    private static void testIsInForce(int kind, int days) {
        HoseTests x = atDay(7);
        x.buy(kind, 5, 0);
        x.test(0, 12);
        Check.same("the last day", x.hose(0, 6), 7 + days);
        passAll(x, days);
        Check.same("ready on the last day", x.hose(0, 9), 0);
        x.pass(1);
        Check.same("not on the next one", x.hose(0, 9), 4);
    }

    private static void costOfLinen() {
        Document.sentence("Hoses", "it costs 2 for each metre");
        costIs(LINEN, 5, 10);
        costIs(LINEN, 50, 100);
    }

    private static void costIs(int kind, int length, int cost) {
        HoseTests tooPoor = withMoney(cost - 1);
        Check.refuses("buy for " + cost + " with 1 less", tooPoor, STATE, () -> tooPoor.buy(kind, length, 0));
        HoseTests x = withMoney(cost);
        Check.same("buy for " + cost, x.buy(kind, length, 0), 2);
        Check.same("money behind it", x.count(1), 0);
        Check.same("paid", x.count(9), 200 + cost);
    }

    private static void strengthOfRubber() {
        Document.sentence("Hoses", "rubber: a strength of 20, less its wear divided by 8, less its age divided by 2");
        strengthIs(RUBBER, 0, 0, 20);
        strengthIs(RUBBER, 15, 0, 19);
        strengthIs(RUBBER, 16, 0, 18);
        strengthIs(RUBBER, 99, 0, 8);
        strengthIs(RUBBER, 0, 199, 20);
        strengthIs(RUBBER, 0, 200, 19);
        strengthIs(RUBBER, 0, 399, 19);
        strengthIs(RUBBER, 99, 1500, 1);
    }

    private static void lifeOfRubber() {
        Document.sentence("Hoses", "a life of 1500 days");
        lifeIs(RUBBER, 1500);
    }

    private static void testsOfRubber() {
        Document.sentence("Hoses", "150 days");
        testIsInForce(RUBBER, 150);
    }

    private static void costOfRubber() {
        Document.sentence("Hoses", "3 for each metre");
        costIs(RUBBER, 5, 15);
        costIs(RUBBER, 50, 150);
    }

    private static void strengthOfLined() {
        Document.sentence("Hoses", "lined: a strength of 24, less its wear divided by 5");
        strengthIs(LINED, 0, 0, 24);
        strengthIs(LINED, 9, 0, 23);
        strengthIs(LINED, 10, 0, 22);
        strengthIs(LINED, 99, 0, 5);
        strengthIs(LINED, 0, 9000, 24);
        strengthIs(LINED, 99, 9000, 5);
    }

    private static void lifeOfLined() {
        Document.sentence("Hoses", "a life of 1200 days");
        lifeIs(LINED, 1200);
    }

    private static void testsOfLined() {
        Document.sentence("Hoses", "200 days");
        testIsInForce(LINED, 200);
    }

    private static void costOfLined() {
        Document.sentence("Hoses", "4 for each metre, and 10");
        costIs(LINED, 5, 30);
        costIs(LINED, 50, 210);
    }

    private static void strengthIsAtLeast0ByAge() {
        Document.sentence("Hoses", "A strength is at least 0.");
        strengthIs(LINEN, 0, 1500, 1);
        strengthIs(LINEN, 0, 1600, 0);
        strengthIs(LINEN, 0, 1700, 0);
        strengthIs(RUBBER, 0, 3999, 1);
        strengthIs(RUBBER, 0, 4000, 0);
        strengthIs(RUBBER, 0, 4200, 0);
    }

    private static void strengthIsAtLeast0ByWearAndAge() {
        Document.sentence("Hoses", "A strength is at least 0.");
        strengthIs(LINEN, 99, 700, 0);
        strengthIs(LINEN, 99, 800, 0);
        strengthIs(RUBBER, 99, 1600, 0);
        strengthIs(RUBBER, 99, 1800, 0);
    }

    // ---- reasons

    private static final String FIRST_REASON = "if none of these reasons applies; the first one that does is told";

    private static void reasons() {
        noReason();
        goneComesBeforeTooOldAndUntested();
        goneAlone();
        lentComesBeforeTooOldAndUntested();
        lentAlone();
        tooOldComesBeforeUntested();
        tooOldAlone();
        olderThanItsLife();
        behindTheLastDay();
        withoutATest();
    }

    private static void noReason() {
        Document.sentence("Hoses", FIRST_REASON);
        HoseTests x = new HoseTests();
        ready(x, LINEN, 5, 0, STORE);
        Check.same("reason", x.hose(0, 9), 0);
    }

    private static void goneComesBeforeTooOldAndUntested() {
        Document.sentence("Hoses", FIRST_REASON);
        HoseTests x = new HoseTests();
        x.buy(LINEN, 5, 0);
        passAll(x, 901);
        burst(x, 0);
        Check.same("reason", x.hose(0, 9), 1);
    }

    private static void goneAlone() {
        Document.sentence("Hoses", "1: it is gone");
        HoseTests x = new HoseTests();
        ready(x, LINEN, 5, 0, STORE);
        x.renew(0);
        Check.same("reason", x.hose(0, 9), 1);
    }

    private static void lentComesBeforeTooOldAndUntested() {
        Document.sentence("Hoses", FIRST_REASON);
        HoseTests x = new HoseTests();
        x.set(0, 4);
        x.buy(LINEN, 5, 0);
        passAll(x, 805);
        x.test(0, 4);
        passAll(x, 45);
        x.lend(0, 99);
        passAll(x, 98);
        Check.same("lent, too old and not in force", x.hose(0, 9), 2);
        x.pass(1);
        Check.same("back, too old and not in force", x.hose(0, 9), 3);
    }

    private static void lentAlone() {
        Document.sentence("Hoses", "2: it is lent");
        HoseTests x = new HoseTests();
        ready(x, LINEN, 5, 0, STORE);
        x.lend(0, 2);
        x.pass(1);
        Check.same("on the day before", x.hose(0, 9), 2);
        x.pass(1);
        Check.same("back", x.hose(0, 9), 0);
    }

    private static void tooOldComesBeforeUntested() {
        Document.sentence("Hoses", FIRST_REASON);
        HoseTests x = new HoseTests();
        x.buy(LINEN, 5, 0);
        passAll(x, 900);
        Check.same("without a test", x.hose(0, 9), 4);
        x.pass(1);
        Check.same("too old and without a test", x.hose(0, 9), 3);
    }

    private static void tooOldAlone() {
        Document.sentence("Hoses", FIRST_REASON);
        HoseTests x = new HoseTests();
        x.set(0, 4);
        x.buy(LINEN, 5, 0);
        passAll(x, 901);
        x.test(0, 4);
        Check.same("in force", x.hose(0, 6), 1001);
        Check.same("too old", x.hose(0, 9), 3);
    }

    private static void olderThanItsLife() {
        Document.sentence("Hoses", "3: it is older than its life");
        lifeIs(LINEN, 900);
    }

    private static void behindTheLastDay() {
        Document.sentence("Hoses", "4: no test of it is in force (the day of now is behind the last one");
        testIsInForce(LINEN, 100);
    }

    private static void withoutATest() {
        Document.sentence("Hoses", "or it has none)");
        HoseTests x = new HoseTests();
        x.buy(LINEN, 5, 0);
        Check.same("reason on the day 0", x.hose(0, 9), 4);
        x.test(0, 11);
        Check.same("a test that does not count", x.hose(0, 9), 4);
        x.test(0, 12);
        Check.same("a test that counts", x.hose(0, 9), 0);
    }
}
