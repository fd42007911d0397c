/** Stations in the states that the tests want, and looks at several things at once; tests extend it for its names. */
abstract class Scene {

    static final int NONE = HoseTests.NONE;
    static final int STORE = 3;
    static final int LENT = 4;

    static final int LINEN = 0;
    static final int RUBBER = 1;
    static final int LINED = 2;

    static final Class<IllegalArgumentException> ARGUMENT = IllegalArgumentException.class;
    static final Class<IllegalStateException> STATE = IllegalStateException.class;
    static final Class<IndexOutOfBoundsException> INDEX = IndexOutOfBoundsException.class;

    static final int[] FAR = {Integer.MIN_VALUE, -1000, 1000, Integer.MAX_VALUE};

    static HoseTests atDay(int day) {
        HoseTests x = new HoseTests();
        passAll(x, day);
        return x;
    }

    static void passAll(HoseTests x, int days) {
        for (int left = days; left > 0; left -= 100) {
            x.pass(Math.min(left, 100));
        }
    }

    /** A station with 6800 of money, on the day 1000. */
    static HoseTests rich() {
        HoseTests x = new HoseTests();
        x.set(2, 200);
        passAll(x, 1000);
        return x;
    }

    /** Its hoses 0 and 1 took all the money that there was at first. */
    static HoseTests withMoney(int money) {
        HoseTests x = new HoseTests();
        x.buy(LINEN, 50, 0);
        x.buy(LINEN, 50, 0);
        for (int left = money; left > 0; left -= 200) {
            x.set(2, Math.min(left, 200));
            x.pass(30);
        }
        return x;
    }

    static HoseTests withHoses(int hoses) {
        HoseTests x = rich();
        for (int h = 0; h < hoses; h++) {
            x.buy(LINEN, 5, 0);
        }
        return x;
    }

    static HoseTests withText(String text) {
        HoseTests x = new HoseTests();
        type(x, text);
        return x;
    }

    static int ready(HoseTests x, int kind, int length, int coupling, int place) {
        int h = x.buy(kind, length, coupling);
        x.test(h, 12);
        x.put(h, place);
        return h;
    }

    static void burst(HoseTests x, int h) {
        Check.same("a burst by 24", x.test(h, 24) / 100, 1);
    }

    static void type(HoseTests x, String text) {
        for (int i = 0; i < text.length(); i++) {
            x.append(text.charAt(i));
        }
    }

    static void hoseIs(HoseTests x, int h, int... due) {
        for (int what = 0; what < due.length; what++) {
            Check.same("hose(" + h + ", " + what + ")", x.hose(h, what), due[what]);
        }
    }

    static void truckIs(HoseTests x, int t, int... due) {
        for (int what = 0; what < due.length; what++) {
            Check.same("truck(" + t + ", " + what + ")", x.truck(t, what), due[what]);
        }
    }

    static void countsAre(HoseTests x, int... due) {
        for (int what = 0; what < due.length; what++) {
            Check.same("count(" + what + ")", x.count(what), due[what]);
        }
    }

    static void wearBy(HoseTests x, int h, int times) {
        for (int i = 0; i < times; i++) {
            x.test(h, 4);
        }
    }

    /** The digest, put together from the single looks. */
    static void digestIsDue(HoseTests x, String buffer) {
        long hash = 3271;
        for (int what = 0; what <= 10; what++) {
            hash = 31 * hash + x.count(what);
        }
        for (int s = 0; s < 3; s++) {
            hash = 31 * hash + x.setting(s);
        }
        for (int h = 0; h < x.count(2); h++) {
            for (int what = 0; what <= 9; what++) {
                hash = 31 * hash + x.hose(h, what);
            }
            hash = 31 * hash + x.ifTested(h, 12);
            hash = 31 * hash + x.safe(h);
        }
        for (int t = 0; t < 3; t++) {
            for (int what = 0; what <= 6; what++) {
                hash = 31 * hash + x.truck(t, what);
            }
            hash = 31 * hash + x.helps(t);
        }
        hash = 31 * hash + x.nextLapse();
        hash = 31 * hash + Double.doubleToLongBits(x.readyShare());
        hash = 31 * hash + buffer.length();
        for (int i = 0; i < buffer.length(); i++) {
            hash = 31 * hash + buffer.charAt(i);
        }
        Check.same("digest", x.digest(), hash);
    }
}
