/** What the tests of the single promises share: sentences that stand in several of them, and what they ask. */
abstract class PromiseScene extends Scene {

    interface OfNumber {
        long answer(int number);
    }

    interface OfHose {
        long answer(HoseTests x, int hose);
    }

    static final String ITS_NUMBER = "- `hose`: its number";
    static final String NO_SUCH_HOSE = "Throws `IndexOutOfBoundsException` if there is no such hose";
    static final String TRUCK = "- `truck`: 0 to 2";
    static final String NO_SUCH_TRUCK = "Throws `IndexOutOfBoundsException` if there is no such truck";
    static final String SETTING = "- `setting`: 0 to 2";
    static final String NO_SUCH_SETTING = "Throws `IndexOutOfBoundsException` if there is no such setting";
    static final String PRESSURE = "- `pressure`: 4 to 24";
    static final String PRESSURE_RANGE = "Throws `IllegalArgumentException` if pressure is out of range";
    static final String LENGTH_RANGE = "Throws `IllegalArgumentException` if length is out of range";
    static final String DAYS_RANGE = "Throws `IllegalArgumentException` if days is out of range";

    /** 56 characters, behind which a text goes on with a part. */
    static final String PARTS = "n5a,r6b,l7c,n5a,r6b,l7c,n5a,r6b,l7c,n5a,r6b,l7c,n5a,r6b,";

    static void refusesOutside(HoseTests x, int least, int greatest, Class<? extends RuntimeException> due,
            OfNumber call) {
        int[] outside = {least - 1, greatest + 1, Integer.MIN_VALUE, -1000, 1000, Integer.MAX_VALUE};
        for (int number : outside) {
            Check.refuses("number " + number, x, due, () -> call.answer(number));
        }
    }

    static HoseTests withReady(int hoses) {
        HoseTests x = rich();
        for (int h = 0; h < hoses; h++) {
            ready(x, LINEN, 5, 0, STORE);
        }
        return x;
    }

    /** The first and the last number are fine; these are answered. */
    static void takesItsNumber(String promise, int last, OfHose call) {
        Document.sentence(promise, ITS_NUMBER);
        Check.isTrue("the first one", call.answer(withReady(last + 1), 0) >= 0);
        Check.isTrue("the last one", call.answer(withReady(last + 1), last) >= 0);
        Check.isTrue("the only one", call.answer(withReady(1), 0) >= 0);
    }

    static void refusesNoSuchHose(String promise, OfHose call) {
        Document.sentence(promise, NO_SUCH_HOSE);
        HoseTests none = new HoseTests();
        Check.refuses("0 of none", none, INDEX, () -> call.answer(none, 0));
        HoseTests three = withReady(3);
        refusesOutside(three, 0, 2, INDEX, h -> call.answer(three, h));
        Check.refuses("13 of 3", three, INDEX, () -> call.answer(three, 13));
        HoseTests full = withReady(14);
        refusesOutside(full, 0, 13, INDEX, h -> call.answer(full, h));
        HoseTests undone = withReady(1);
        undone.undo();
        undone.undo();
        undone.undo();
        Check.refuses("0 behind undo", undone, INDEX, () -> call.answer(undone, 0));
    }

    /** Two that are gone, and one that is lent: 0 is burst, 1 is given away, 2 is lent, 3 is the new one. */
    static HoseTests withGoneAndLent() {
        HoseTests x = withReady(3);
        burst(x, 0);
        x.renew(1);
        x.lend(2, 5);
        return x;
    }

    static void refusesGoneAndLent(OfHose call) {
        HoseTests x = withGoneAndLent();
        Check.refuses("burst", x, STATE, () -> call.answer(x, 0));
        Check.refuses("given away", x, STATE, () -> call.answer(x, 1));
        Check.refuses("lent", x, STATE, () -> call.answer(x, 2));
        x.pass(4);
        Check.refuses("lent, on the day before", x, STATE, () -> call.answer(x, 2));
        x.pass(1);
        Check.isTrue("back on its day", call.answer(x, 2) >= 0);
    }
}
