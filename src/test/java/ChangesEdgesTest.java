/** The boundary cases that the promises 1 to 14 name: each line of a promise has a test of its own, which quotes it. */
public final class ChangesEdgesTest extends PromiseScene {

    public static void main(String[] args) {
        newObject();
        buy();
        renew();
        put();
        lend();
        test();
        want();
        set();
        pass();
        append();
        clearBuffer();
        firstError();
        buyAll();
        undo();
        Document.promisesAreQuoted(1, 14);
        Check.end("ChangesEdgesTest");
    }

    // ---- promise 1

    private static void newObject() {
        aNewObjectIsEmpty();
        twoObjectsShareNothing();
    }

    private static void aNewObjectIsEmpty() {
        Document.sentence("Promise 1", "Creates a station without hoses on the day 0, with an empty buffer.");
        HoseTests x = new HoseTests();
        countsAre(x, 0, 200, 0, 0, 0, 0, 0, 0, 0, 0, 0);
        Check.refuses("hose 0", x, INDEX, () -> x.hose(0, 0));
        Check.same("buffer", x.clearBuffer(), 0);
        Check.same("firstError", x.firstError(), 0);
    }

    private static void twoObjectsShareNothing() {
        Document.sentence("Promise 1", "Creates a station without hoses on the day 0, with an empty buffer.");
        HoseTests x = new HoseTests();
        long before = x.digest();
        HoseTests other = withGoneAndLent();
        other.want(0, 1);
        type(other, "n5a");
        Check.same("digest", x.digest(), before);
        Check.same("digest of a third", new HoseTests().digest(), before);
    }

    // ---- promise 2

    private static void buy() {
        newAndNotTested();
        Document.sentence("Promise 2", "- `kind`: 0 to 2");
        buys(0, 5, 0);
        buys(1, 5, 0);
        buys(2, 5, 0);
        Document.sentence("Promise 2", "- `length`: 5 to 50");
        buys(0, 5, 0);
        buys(0, 50, 0);
        buys(2, 50, 0);
        Document.sentence("Promise 2", "- `coupling`: 0 to 2");
        buys(0, 5, 0);
        buys(0, 5, 1);
        buys(0, 5, 2);
        buyReturnsItsNumber();
        buyOutOfRange();
        buyWithoutRoom();
        buyWithoutMoney();
    }

    private static void newAndNotTested() {
        Document.sentence("Promise 2", "Buys a hose, new and not tested, for the store. Undoable.");
        HoseTests x = atDay(99);
        x.buy(RUBBER, 5, 1);
        hoseIs(x, 0, RUBBER, 5, 1, 99, 0, 20, NONE, STORE, NONE, 4);
        x.undo();
        countsAre(x, 99, 350, 0, 0, 0, 0, 0, 0, 0, 0, 1);
        x.buy(LINEN, 6, 2);
        hoseIs(x, 0, LINEN, 6, 2, 99, 0, 16, NONE, STORE, NONE, 4);
    }

    private static void buys(int kind, int length, int coupling) {
        HoseTests x = rich();
        Check.same("buy", x.buy(kind, length, coupling), 0);
        hoseIs(x, 0, kind, length, coupling, 1000, 0, 16 + 4 * kind, NONE, STORE, NONE, 4);
    }

    private static void buyReturnsItsNumber() {
        Document.sentence("Promise 2", "Returns its number.");
        HoseTests x = rich();
        for (int h = 0; h <= 13; h++) {
            Check.same("number", x.buy(LINEN, 5, 0), h);
        }
    }

    private static void buyOutOfRange() {
        Document.sentence("Promise 2", "Throws `IllegalArgumentException` if kind, length or coupling is out of range");
        HoseTests x = rich();
        refusesOutside(x, 0, 2, ARGUMENT, kind -> x.buy(kind, 5, 0));
        refusesOutside(x, 5, 50, ARGUMENT, length -> x.buy(0, length, 0));
        refusesOutside(x, 0, 2, ARGUMENT, coupling -> x.buy(0, 5, coupling));
        Check.refuses("length 0", x, ARGUMENT, () -> x.buy(0, 0, 0));
    }

    private static void buyWithoutRoom() {
        Document.sentence("Promise 2", "Throws `IllegalStateException` if there are 14 hoses (gone ones, too)");
        HoseTests x = withHoses(14);
        Check.refuses("a 15th", x, STATE, () -> x.buy(LINEN, 5, 0));
        for (int h = 0; h < 14; h++) {
            burst(x, h);
        }
        Check.same("gone ones", x.count(3), 14);
        Check.refuses("a 15th, all are gone", x, STATE, () -> x.buy(LINEN, 5, 0));
    }

    private static void buyWithoutMoney() {
        Document.sentence("Promise 2", "or the money does not do");
        HoseTests x = withMoney(29);
        Check.refuses("30 of 29", x, STATE, () -> x.buy(LINED, 5, 0));
        Check.same("28 of 29", x.buy(LINEN, 14, 0), 2);
        HoseTests even = withMoney(30);
        Check.same("30 of 30", even.buy(LINED, 5, 0), 2);
        Check.same("money", even.count(1), 0);
        Check.refuses("10 of 0", even, STATE, () -> even.buy(LINEN, 5, 0));
    }

    // ---- promise 3

    private static void renew() {
        ofItsKindInTheSamePlace();
        takesItsNumber("Promise 3", 12, HoseTests::renew);
        renewReturnsTheNewNumber();
        refusesNoSuchHose("Promise 3", HoseTests::renew);
        Document.sentence("Promise 3", "Throws `IllegalStateException` if it is gone or lent");
        refusesGoneAndLent(HoseTests::renew);
        renewWithoutRoom();
        renewWithoutMoney();
    }

    private static void ofItsKindInTheSamePlace() {
        Document.sentence("Promise 3", "Gives a hose away for a new one of its kind, length and coupling in the same "
                + "place, not tested; the old one is gone. Undoable.");
        for (int place = 0; place <= STORE; place++) {
            HoseTests x = rich();
            ready(x, LINED, 50, 2, place);
            x.pass(9);
            x.renew(0);
            hoseIs(x, 0, LINED, 50, 2, 1000, 3, 24, 1200, NONE, NONE, 1);
            hoseIs(x, 1, LINED, 50, 2, 1009, 0, 24, NONE, place, NONE, 4);
            Check.same("paid", x.count(9), 420);
            x.undo();
            Check.same("place behind undo", x.hose(0, 7), place);
            Check.same("hoses behind undo", x.count(2), 1);
            Check.same("paid behind undo", x.count(9), 210);
        }
    }

    private static void renewReturnsTheNewNumber() {
        Document.sentence("Promise 3", "Returns the number of the new one.");
        HoseTests x = withHoses(1);
        for (int h = 0; h < 13; h++) {
            Check.same("renew", x.renew(h), h + 1);
        }
        Check.same("gone ones", x.count(3), 13);
    }

    private static void renewWithoutRoom() {
        Document.sentence("Promise 3", "there are 14 hoses");
        HoseTests x = withHoses(14);
        Check.refuses("renew of the last", x, STATE, () -> x.renew(13));
        burst(x, 0);
        Check.refuses("renew with a gone one", x, STATE, () -> x.renew(13));
        x.undo();
        x.undo();
        Check.same("renew with 13", x.renew(12), 13);
    }

    private static void renewWithoutMoney() {
        Document.sentence("Promise 3", "or the money does not do");
        HoseTests x = withMoney(99);
        Check.refuses("100 of 99", x, STATE, () -> x.renew(0));
        HoseTests even = withMoney(100);
        Check.same("100 of 100", even.renew(0), 2);
        Check.same("money", even.count(1), 0);
    }

    // ---- promise 4

    private static void put() {
        onATruckOrIntoTheStore();
        takesItsNumber("Promise 4", 13, (x, h) -> x.put(h, 0));
        Document.sentence("Promise 4", "- `place`: 0 to 3");
        HoseTests y = withReady(1);
        for (int place = 0; place <= 3; place++) {
            y.put(0, place);
            Check.same("place", y.hose(0, 7), place);
        }
        putReturnsThePlaceBefore();
        refusesNoSuchHose("Promise 4", (x, h) -> x.put(h, 0));
        Document.sentence("Promise 4", "Throws `IllegalArgumentException` if place is out of range");
        refusesOutside(y, 0, 3, ARGUMENT, place -> y.put(0, place));
        Document.sentence("Promise 4", "Throws `IllegalStateException` if it is gone or lent");
        refusesGoneAndLent((x, h) -> x.put(h, 0));
        refusesGoneAndLent((x, h) -> x.put(h, STORE));
    }

    private static void onATruckOrIntoTheStore() {
        Document.sentence("Promise 4", "Puts a hose on a truck, or into the store. Undoable.");
        HoseTests x = new HoseTests();
        x.buy(LINEN, 5, 0);
        x.put(0, 2);
        Check.same("hoses on the truck, though not ready", x.truck(2, 2), 1);
        x.put(0, STORE);
        Check.same("hoses on the truck", x.truck(2, 2), 0);
        x.undo();
        Check.same("hoses on the truck", x.truck(2, 2), 1);
        x.undo();
        Check.same("place", x.hose(0, 7), STORE);
    }

    private static void putReturnsThePlaceBefore() {
        Document.sentence("Promise 4", "Returns the place where it was.");
        HoseTests x = withReady(1);
        Check.same("from the store into the store", x.put(0, STORE), STORE);
        Check.same("from the store", x.put(0, 0), STORE);
        Check.same("from 0", x.put(0, 1), 0);
        Check.same("from 1", x.put(0, 2), 1);
        Check.same("from 2 to 2", x.put(0, 2), 2);
        x.lend(0, 1);
        x.pass(1);
        Check.same("back from another station", x.put(0, 2), STORE);
    }

    // ---- promise 5

    private static void lend() {
        toAnotherStation();
        takesItsNumber("Promise 5", 13, (x, h) -> x.lend(h, 1));
        daysLent();
        lendReturnsTheDay();
        refusesNoSuchHose("Promise 5", (x, h) -> x.lend(h, 1));
        Document.sentence("Promise 5", DAYS_RANGE);
        HoseTests y = withReady(1);
        refusesOutside(y, 1, 99, ARGUMENT, days -> y.lend(0, days));
        Document.sentence("Promise 5", "Throws `IllegalStateException` if it is not ready");
        refusesGoneAndLent((x, h) -> x.lend(h, 1));
        lendOfOneThatIsTooOld();
        lendOfOneWithoutATest();
    }

    private static void toAnotherStation() {
        Document.sentence("Promise 5", "Lends a hose to another station. Undoable.");
        for (int place = 0; place <= STORE; place++) {
            HoseTests x = new HoseTests();
            ready(x, LINEN, 5, 0, place);
            x.lend(0, 99);
            hoseIs(x, 0, LINEN, 5, 0, 0, 3, 16, 100, LENT, 99, 2);
            x.undo();
            hoseIs(x, 0, LINEN, 5, 0, 0, 3, 16, 100, place, NONE, 0);
        }
    }

    private static void daysLent() {
        Document.sentence("Promise 5", "- `days`: 1 to 99");
        int[] days = {1, 2, 98, 99};
        for (int d : days) {
            HoseTests x = withReady(1);
            x.lend(0, d);
            for (int i = 1; i < d; i++) {
                x.pass(1);
                Check.same("lent for " + d + " on the day " + i, x.hose(0, 7), LENT);
            }
            x.pass(1);
            Check.same("lent for " + d + ", back", x.hose(0, 7), STORE);
        }
    }

    private static void lendReturnsTheDay() {
        Document.sentence("Promise 5", "Returns the day on which it comes back.");
        HoseTests x = new HoseTests();
        ready(x, LINEN, 5, 0, 0);
        ready(x, LINEN, 5, 0, 0);
        Check.same("lend for 1 on the day 0", x.lend(0, 1), 1);
        Check.same("lend for 99 on the day 0", x.lend(1, 99), 99);
        x.pass(1);
        Check.same("lend for 99 on the day 1", x.lend(0, 99), 100);
        Check.same("the day", x.hose(0, 8), 100);
    }

    private static void lendOfOneThatIsTooOld() {
        Document.sentence("Promise 5", "Throws `IllegalStateException` if it is not ready");
        HoseTests x = new HoseTests();
        x.set(0, 4);
        x.buy(LINEN, 5, 0);
        passAll(x, 900);
        x.test(0, 4);
        Check.same("on the last day of its life", x.lend(0, 1), 901);
        x.pass(1);
        Check.refuses("behind it", x, STATE, () -> x.lend(0, 1));
    }

    private static void lendOfOneWithoutATest() {
        Document.sentence("Promise 5", "Throws `IllegalStateException` if it is not ready");
        HoseTests x = new HoseTests();
        x.buy(LINEN, 5, 0);
        Check.refuses("not tested", x, STATE, () -> x.lend(0, 1));
        x.test(0, 12);
        passAll(x, 100);
        Check.same("on the last day of its test", x.lend(0, 1), 101);
        x.pass(1);
        Check.refuses("behind it", x, STATE, () -> x.lend(0, 1));
    }

    // ---- promise 6

    private static void test() {
        takesItsNumber("Promise 6", 13, (x, h) -> x.test(h, 4));
        Document.sentence("Promise 6", PRESSURE);
        Check.same("the least", withReady(1).test(0, 4), 1);
        Check.same("the greatest", withReady(1).test(0, 24), 104);
        testReturnsTheSteps();
        refusesNoSuchHose("Promise 6", (x, h) -> x.test(h, 4));
        Document.sentence("Promise 6", PRESSURE_RANGE);
        HoseTests y = withReady(1);
        refusesOutside(y, 4, 24, ARGUMENT, pressure -> y.test(0, pressure));
        Document.sentence("Promise 6", "Throws `IllegalStateException` if it is gone or lent");
        refusesGoneAndLent((x, h) -> x.test(h, 4));
        testsThatAreCounted();
    }

    private static void testReturnsTheSteps() {
        Document.sentence("Promise 6", "Returns how many steps it held; if it burst, that number and 100.");
        HoseTests x = rich();
        x.buy(LINED, 5, 0);
        x.buy(LINED, 5, 0);
        Check.same("all of 6", x.test(0, 23), 6);
        Check.same("5 of 6", x.test(1, 24), 105);
        HoseTests old = new HoseTests();
        old.buy(LINEN, 5, 0);
        passAll(old, 1600);
        Check.same("strength", old.hose(0, 5), 0);
        Check.same("none of 1", old.test(0, 4), 100);
    }

    private static void testsThatAreCounted() {
        Document.sentence("Promise 6", "Tests a hose. Undoable.");
        HoseTests x = withReady(1);
        Check.same("tests", x.count(7), 1);
        burst(x, 0);
        countsAre(x, 1000, 6790, 1, 1, 0, 0, 0, 2, 1, 10, 6);
        x.undo();
        countsAre(x, 1000, 6790, 1, 0, 1, 0, 0, 1, 0, 10, 5);
        hoseIs(x, 0, LINEN, 5, 0, 1000, 3, 16, 1100, STORE, NONE, 0);
    }

    // ---- promise 7

    private static void want() {
        Document.sentence("Promise 7", TRUCK);
        HoseTests x = new HoseTests();
        for (int truck = 0; truck <= 2; truck++) {
            x.want(truck, 10 + truck);
        }
        for (int truck = 0; truck <= 2; truck++) {
            Check.same("length", x.truck(truck, 0), 10 + truck);
        }
        Document.sentence("Promise 7", "- `length`: 0 to 200");
        x.want(1, 0);
        Check.same("the least", x.truck(1, 0), 0);
        x.want(1, 200);
        Check.same("the greatest", x.truck(1, 0), 200);
        Document.sentence("Promise 7", "Returns the previous length.");
        HoseTests y = new HoseTests();
        Check.same("the first one", y.want(2, 0), 60);
        Check.same("the least", y.want(2, 200), 0);
        Check.same("the greatest", y.want(2, 200), 200);
        Document.sentence("Promise 7", NO_SUCH_TRUCK);
        refusesOutside(y, 0, 2, INDEX, truck -> y.want(truck, 60));
        Document.sentence("Promise 7", LENGTH_RANGE);
        refusesOutside(y, 0, 200, ARGUMENT, length -> y.want(0, length));
        Document.sentence("Promise 7", "Changes the length that a truck wants. Undoable.");
        y.undo();
        y.undo();
        Check.same("undone", y.truck(2, 0), 0);
    }

    // ---- promise 8

    private static void set() {
        Document.sentence("Promise 8", SETTING);
        HoseTests x = new HoseTests();
        int[] values = {9, 3, 7};
        for (int setting = 0; setting <= 2; setting++) {
            x.set(setting, values[setting]);
        }
        for (int setting = 0; setting <= 2; setting++) {
            Check.same("value", x.setting(setting), values[setting]);
        }
        Document.sentence("Promise 8", "- `value`: the new value");
        setsTo(0, 4, 24);
        setsTo(1, 0, 5);
        setsTo(2, 0, 200);
        Document.sentence("Promise 8", "Returns the previous value.");
        HoseTests y = new HoseTests();
        Check.same("the first one", y.set(0, 4), 12);
        Check.same("the least", y.set(0, 24), 4);
        Check.same("the greatest", y.set(0, 24), 24);
        Document.sentence("Promise 8", NO_SUCH_SETTING);
        refusesOutside(y, 0, 2, INDEX, setting -> y.set(setting, 4));
        Document.sentence("Promise 8", "Throws `IllegalArgumentException` if value is out of range");
        refusesOutside(y, 4, 24, ARGUMENT, value -> y.set(0, value));
        refusesOutside(y, 0, 5, ARGUMENT, value -> y.set(1, value));
        refusesOutside(y, 0, 200, ARGUMENT, value -> y.set(2, value));
        Document.sentence("Promise 8", "Changes a setting. Undoable.");
        y.undo();
        y.undo();
        Check.same("undone", y.setting(0), 4);
    }

    private static void setsTo(int setting, int least, int greatest) {
        for (int value = least; value <= greatest; value++) {
            HoseTests x = new HoseTests();
            x.set(setting, value);
            Check.same("setting " + setting, x.setting(setting), value);
        }
    }

    // ---- promise 9

    private static void pass() {
        Document.sentence("Promise 9", "- `days`: 1 to 100");
        Check.same("the least", new HoseTests().pass(1), 1);
        Check.same("the greatest", new HoseTests().pass(100), 100);
        Document.sentence("Promise 9", "Returns the day then.");
        HoseTests x = atDay(999);
        Check.same("the next day", x.pass(1), 1000);
        Check.same("day", x.count(0), 1000);
        Document.sentence("Promise 9", DAYS_RANGE);
        refusesOutside(x, 1, 100, ARGUMENT, days -> x.pass(days));
        undoableAsOneCall();
    }

    private static void undoableAsOneCall() {
        Document.sentence("Promise 9", "Undoable, as one call.");
        HoseTests worn = new HoseTests();
        ready(worn, LINEN, 5, 0, 0);
        passAndUndo(worn);
        Check.same("wear", worn.hose(0, 4), 3);
        HoseTests lent = new HoseTests();
        lent.buy(LINEN, 5, 0);
        lent.test(0, 12);
        lent.lend(0, 50);
        passAndUndo(lent);
        Check.same("day on which it comes back", lent.hose(0, 8), 50);
    }

    private static void passAndUndo(HoseTests x) {
        long before = x.digest();
        x.pass(100);
        countsAre(x, 100, 340, 1, 0, 1, 0, 0, 1, 0, 10, 4);
        Check.same("undo", x.undo(), 3);
        Check.same("digest", x.digest(), before);
    }

    // ---- promise 10

    private static void append() {
        Document.sentence("Promise 10", "- `code`: the character code, 33 to 126");
        HoseTests x = new HoseTests();
        for (int code = 33; code <= 92; code++) {
            Check.same("append " + code, x.append(code), code - 32);
        }
        x.clearBuffer();
        for (int code = 93; code <= 126; code++) {
            Check.same("append " + code, x.append(code), code - 92);
        }
        Document.sentence("Promise 10", "Returns the new length of the buffer.");
        x.clearBuffer();
        Check.same("from empty", x.append('n'), 1);
        for (int length = 2; length <= 60; length++) {
            Check.same("length", x.append('n'), length);
        }
        Document.sentence("Promise 10", "Throws `IllegalStateException` if the buffer has 60 characters");
        Check.refuses("a 61st", x, STATE, () -> x.append('n'));
        x.clearBuffer();
        Document.sentence("Promise 10", "Throws `IllegalArgumentException` if code is not 33 to 126");
        refusesOutside(x, 33, 126, ARGUMENT, x::append);
        Check.refuses("code 0", x, ARGUMENT, () -> x.append(0));
        Check.refuses("a code that is n by its last 16 bits", x, ARGUMENT, () -> x.append(65536 + 'n'));
    }

    // ---- promise 11

    private static void clearBuffer() {
        Document.sentence("Promise 11", "Returns the length that it had.");
        HoseTests x = new HoseTests();
        Check.same("empty", x.clearBuffer(), 0);
        type(x, "n");
        Check.same("one", x.clearBuffer(), 1);
        for (int i = 0; i < 60; i++) {
            x.append('~');
        }
        Check.same("full", x.clearBuffer(), 60);
        Document.sentence("Promise 11", "Clears the buffer.");
        Check.same("cleared", x.clearBuffer(), 0);
        Check.same("digest of a new one", x.digest(), new HoseTests().digest());
        Check.same("no error of what was there", x.firstError(), 0);
    }

    // ---- promise 12

    private static void firstError() {
        Document.sentence("Promise 12", "Returns the index of the first character that is a syntax error");
        Check.same("at 0", withText("a").firstError(), 0);
        Check.same("at 1", withText("nn").firstError(), 1);
        Check.same("in the middle", withText("n5a,x,y").firstError(), 4);
        Check.same("at 59", withText(PARTS + "n5ax").firstError(), 59);
        Check.same("at 58 and 59", withText(PARTS + "n5xx").firstError(), 58);
        Document.sentence("Promise 12", "the length of the buffer if there is none");
        Check.same("empty", withText("").firstError(), 0);
        Check.same("one", withText("n").firstError(), 1);
        Check.same("complete", withText("n5a").firstError(), 3);
        Check.same("full", withText(PARTS + "n50a").firstError(), 60);
        HoseTests x = withText("n5a,x");
        long before = x.digest();
        x.firstError();
        Check.same("nothing is changed", x.digest(), before);
    }

    // ---- promise 13

    private static void buyAll() {
        asWithBuy();
        noMoreThanTheBufferHas();
        upToTheFirstThatIsTooDear();
        upToTheLastRoom();
        clearsTheBuffer();
        asOneCall();
        asOneCallAlsoIfNoneIsBought();
        howManyAreBought();
        notComplete();
    }

    private static void asWithBuy() {
        Document.sentence("Promise 13", "Buys the hoses in the buffer, one after the other, as with buy()");
        HoseTests x = rich();
        type(x, "n5a,r6b,l50c");
        x.buyAll();
        hoseIs(x, 0, LINEN, 5, 0, 1000, 0, 16, NONE, STORE, NONE, 4);
        hoseIs(x, 1, RUBBER, 6, 1, 1000, 0, 20, NONE, STORE, NONE, 4);
        hoseIs(x, 2, LINED, 50, 2, 1000, 0, 24, NONE, STORE, NONE, 4);
        Check.same("money", x.count(1), 6800 - 10 - 18 - 210);
    }

    private static void noMoreThanTheBufferHas() {
        Document.sentence("Promise 13", "Buys the hoses in the buffer");
        HoseTests x = withText("n5abc");
        x.clearBuffer();
        type(x, "n5a");
        Check.same("not what was there before", x.buyAll(), 1);
        HoseTests full = rich();
        String sixty = "n10a,n11a,n12a,n13a,n14a,n15a,n16a,n17a,n18a,n5a,n6a,n7a,l9c";
        type(full, sixty);
        Check.same("all of 60 characters", full.buyAll(), 13);
        hoseIs(full, 12, LINED, 9, 2);
        Check.same("length of that text", sixty.length(), 60);
    }

    private static void upToTheFirstThatIsTooDear() {
        Document.sentence("Promise 13", "up to the first one that is not possible");
        HoseTests even = withMoney(20);
        type(even, "n5a,n5b");
        Check.same("20 of 20", even.buyAll(), 2);
        HoseTests less = withMoney(19);
        type(less, "n5a,n5b");
        Check.same("20 of 19", less.buyAll(), 1);
        HoseTests x = withMoney(30);
        type(x, "n10a,r5b,n5c");
        Check.same("what comes behind it is not bought", x.buyAll(), 1);
        Check.same("money", x.count(1), 10);
        Check.same("hoses", x.count(2), 3);
    }

    private static void upToTheLastRoom() {
        Document.sentence("Promise 13", "up to the first one that is not possible");
        HoseTests x = withHoses(13);
        type(x, "n5a,n6b");
        Check.same("the 14th", x.buyAll(), 1);
        Check.same("its coupling", x.hose(13, 2), 0);
        type(x, "n5a");
        Check.same("a 15th", x.buyAll(), 0);
        Check.same("paid", x.count(9), 140);
    }

    private static void clearsTheBuffer() {
        Document.sentence("Promise 13", "and clears the buffer");
        HoseTests all = withText("n5a,n5a");
        all.buyAll();
        Check.same("all are bought", all.clearBuffer(), 0);
        HoseTests some = withText("n50a,l50a");
        some.buyAll();
        Check.same("some are bought", some.clearBuffer(), 0);
        HoseTests none = withText("l50a");
        none.buyAll();
        Check.same("none is bought", none.clearBuffer(), 0);
    }

    private static void asOneCall() {
        Document.sentence("Promise 13", "Undoable, as one call");
        HoseTests x = withText("n5a,r5b,l5c");
        x.buyAll();
        Check.same("saved states", x.count(10), 1);
        x.undo();
        countsAre(x, 0, 200, 0, 0, 0, 0, 0, 0, 0, 0, 0);
    }

    private static void asOneCallAlsoIfNoneIsBought() {
        Document.sentence("Promise 13", "also if none is bought");
        HoseTests x = withText("l50a");
        Check.same("bought", x.buyAll(), 0);
        Check.same("saved states", x.count(10), 1);
        Check.same("undo", x.undo(), 0);
    }

    private static void howManyAreBought() {
        Document.sentence("Promise 13", "Returns how many are bought.");
        Check.same("none", withText("l50a").buyAll(), 0);
        Check.same("one", withText("l5a").buyAll(), 1);
        HoseTests x = rich();
        type(x, "n5a,n5a,n5a,n5a,n5a,n5a,n5a,n5a,n5a,n5a,n5a,n5a,n5a,n5a,n5a");
        Check.same("14 of 15", x.buyAll(), 14);
    }

    private static void notComplete() {
        Document.sentence("Promise 13",
                "Throws `IllegalArgumentException` if the buffer is not complete hoses as a text");
        String[] wrong = {"", "n", "n5", "n1", "n10", "n50", "n5a,", "n5a,r", "n5a,r5", "n1a", "n4a", "n51a", "n05a",
            "x", "n5ax", ",n5a", PARTS, PARTS + "n5a,"};
        for (String text : wrong) {
            HoseTests x = withText(text);
            Check.refuses("buyAll of " + text, x, ARGUMENT, x::buyAll);
            Check.same("the buffer stays", x.clearBuffer(), text.length());
        }
        HoseTests corrected = withText("n5");
        Check.refuses("not yet", corrected, ARGUMENT, corrected::buyAll);
        corrected.append('a');
        Check.same("complete", corrected.buyAll(), 1);
        HoseTests x = rich();
        type(x, PARTS + "n5a");
        Check.same("59 characters", x.buyAll(), 14);
    }

    // ---- promise 14

    private static void undo() {
        restoresTheLatest();
        howManyAreLeft();
        nothingToUndo();
    }

    private static void restoresTheLatest() {
        Document.sentence("Promise 14", "Restores the latest saved state, and drops it.");
        HoseTests x = new HoseTests();
        x.want(0, 1);
        x.want(0, 2);
        x.undo();
        Check.same("the latest", x.truck(0, 0), 1);
        x.undo();
        Check.same("it was dropped", x.truck(0, 0), 60);
    }

    private static void howManyAreLeft() {
        Document.sentence("Promise 14", "Returns how many saved states are left.");
        HoseTests x = new HoseTests();
        x.want(0, 1);
        Check.same("of one", x.undo(), 0);
        for (int i = 0; i < 9; i++) {
            x.want(0, i);
        }
        for (int left = 5; left >= 0; left--) {
            Check.same("of six", x.undo(), left);
            Check.same("saved states", x.count(10), left);
        }
    }

    private static void nothingToUndo() {
        Document.sentence("Promise 14", "Throws `IllegalStateException` if there is none");
        HoseTests x = new HoseTests();
        Check.refuses("of a new one", x, STATE, x::undo);
        x.want(0, 1);
        x.undo();
        Check.refuses("behind the last one", x, STATE, x::undo);
        x.want(0, 1);
        Check.same("again", x.undo(), 0);
    }
}
