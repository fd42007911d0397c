/**
 * What stands under "Exceptions": each refused call of the face, in states where it meets others that apply, throws the
 * exception that is named first, and leaves the object as one that was never asked.
 */
public final class RefusedCallsTest extends Scene {

    private interface Use {
        long on(HoseTests x);
    }

    private interface Place {
        HoseTests make();
    }

    private static final int TOO_OLD = 0;
    private static final int BURST = 1;
    private static final int RENEWED = 2;
    private static final int ON_LOAN = 3;
    private static final int UNTESTED = 4;
    private static final int READY = 5;
    private static final int NO_SUCH = 14;

    private static Place place;

    public static void main(String[] args) {
        Document.sentence("Exceptions", "A call that throws an exception changes nothing.");
        hosesWithoutRoom();
        trucksDaysAndTexts();
        looks();
        withoutMoney();
        withAFullBuffer();
        ofANewObject();
        Document.sentence("Exceptions",
                "If several exceptions apply, the one that is named first in the throws clause is thrown.");
        argumentBeforeState();
        indexBeforeArgument();
        indexBeforeState();
        Check.end("RefusedCallsTest");
    }

    // ---- the states

    /** 14 hoses, one for each reason and ready ones, six saved states, a text that is not complete. */
    private static HoseTests crowded() {
        HoseTests x = new HoseTests();
        x.set(2, 200);
        x.buy(LINEN, 5, 0);
        passAll(x, 1000);
        x.buy(LINEN, 5, 0);
        burst(x, BURST);
        x.buy(LINEN, 5, 0);
        ready(x, RUBBER, 6, 1, 0);
        x.lend(ON_LOAN, 20);
        x.buy(LINED, 7, 2);
        for (int h = READY; h < 13; h++) {
            ready(x, LINEN, 5 + h, h % 3, h % 4);
        }
        x.renew(RENEWED);
        x.pass(1);
        type(x, "n5a,r");
        return x;
    }

    private static HoseTests poor() {
        return withMoney(9);
    }

    private static HoseTests fullOfText() {
        HoseTests x = new HoseTests();
        x.buy(LINEN, 5, 0);
        for (int i = 0; i < 60; i++) {
            x.append('n');
        }
        return x;
    }

    // ---- how a call is refused

    private static void refused(String what, Class<? extends RuntimeException> due, Use use) {
        HoseTests asked = place.make();
        HoseTests neverAsked = place.make();
        Check.refuses(what, asked, due, () -> use.on(asked));
        Check.same("digest behind " + what, asked.digest(), neverAsked.digest());
        while (neverAsked.count(10) > 0) {
            Check.same("undo behind " + what, asked.undo(), neverAsked.undo());
            Check.same("digest behind " + what + " and undo", asked.digest(), neverAsked.digest());
        }
        Check.same("buffer behind " + what, asked.clearBuffer(), neverAsked.clearBuffer());
    }

    // ---- changes nothing

    private static void hosesWithoutRoom() {
        place = RefusedCallsTest::crowded;
        refused("buy", STATE, x -> x.buy(LINEN, 5, 0));
        refused("buy", ARGUMENT, x -> x.buy(-1, 5, 0));
        refused("renew", INDEX, x -> x.renew(NO_SUCH));
        refused("renew without room", STATE, x -> x.renew(READY));
        refused("put", INDEX, x -> x.put(NO_SUCH, 0));
        refused("put", ARGUMENT, x -> x.put(READY, LENT));
        refused("lend", INDEX, x -> x.lend(NO_SUCH, 1));
        refused("lend", ARGUMENT, x -> x.lend(READY, 0));
        refused("lend", ARGUMENT, x -> x.lend(READY, 100));
        refused("test", INDEX, x -> x.test(NO_SUCH, 4));
        refused("test", ARGUMENT, x -> x.test(READY, 3));
        refused("test", ARGUMENT, x -> x.test(READY, 25));
        int[] away = {BURST, RENEWED, ON_LOAN};
        for (int h : away) {
            refused("renew of one that is not at hand", STATE, x -> x.renew(h));
            refused("put of one that is not at hand", STATE, x -> x.put(h, STORE));
            refused("test of one that is not at hand", STATE, x -> x.test(h, 4));
        }
        for (int h = TOO_OLD; h <= UNTESTED; h++) {
            int notReady = h;
            refused("lend of one that is not ready", STATE, x -> x.lend(notReady, 1));
        }
    }

    private static void trucksDaysAndTexts() {
        place = RefusedCallsTest::crowded;
        refused("want", INDEX, x -> x.want(3, 60));
        refused("want", ARGUMENT, x -> x.want(0, -1));
        refused("want", ARGUMENT, x -> x.want(0, 201));
        refused("set", INDEX, x -> x.set(3, 4));
        refused("set", ARGUMENT, x -> x.set(0, 3));
        refused("set", ARGUMENT, x -> x.set(1, 6));
        refused("set", ARGUMENT, x -> x.set(2, 201));
        refused("pass", ARGUMENT, x -> x.pass(0));
        refused("pass", ARGUMENT, x -> x.pass(101));
        refused("append", ARGUMENT, x -> x.append(32));
        refused("append", ARGUMENT, x -> x.append(127));
        refused("buyAll", ARGUMENT, x -> x.buyAll());
    }

    private static void looks() {
        place = RefusedCallsTest::crowded;
        refused("hose", INDEX, x -> x.hose(NO_SUCH, 0));
        refused("hose", ARGUMENT, x -> x.hose(READY, 10));
        refused("truck", INDEX, x -> x.truck(3, 0));
        refused("truck", ARGUMENT, x -> x.truck(0, 7));
        refused("count", ARGUMENT, x -> x.count(11));
        refused("setting", INDEX, x -> x.setting(3));
        refused("ifTested", INDEX, x -> x.ifTested(NO_SUCH, 4));
        refused("ifTested", ARGUMENT, x -> x.ifTested(READY, 25));
        refused("safe", INDEX, x -> x.safe(NO_SUCH));
        refused("helps", INDEX, x -> x.helps(3));
    }

    private static void withoutMoney() {
        place = RefusedCallsTest::poor;
        refused("buy for 10 of 9", STATE, x -> x.buy(LINEN, 5, 0));
        refused("renew for 100 of 9", STATE, x -> x.renew(1));
    }

    private static void withAFullBuffer() {
        place = RefusedCallsTest::fullOfText;
        refused("append", STATE, x -> x.append('n'));
        refused("buyAll", ARGUMENT, x -> x.buyAll());
    }

    private static void ofANewObject() {
        place = HoseTests::new;
        refused("undo", STATE, x -> x.undo());
        refused("buyAll", ARGUMENT, x -> x.buyAll());
        refused("renew", INDEX, x -> x.renew(0));
        refused("put", INDEX, x -> x.put(0, 0));
        refused("lend", INDEX, x -> x.lend(0, 1));
        refused("test", INDEX, x -> x.test(0, 4));
        refused("hose", INDEX, x -> x.hose(0, 0));
        refused("ifTested", INDEX, x -> x.ifTested(0, 4));
        refused("safe", INDEX, x -> x.safe(0));
    }

    // ---- several apply

    private static void argumentBeforeState() {
        place = RefusedCallsTest::crowded;
        refused("wrong kind, no room", ARGUMENT, x -> x.buy(3, 5, 0));
        refused("wrong length, no room", ARGUMENT, x -> x.buy(0, 51, 0));
        refused("wrong coupling, no room", ARGUMENT, x -> x.buy(0, 5, -1));
        int[] away = {BURST, RENEWED, ON_LOAN};
        for (int h : away) {
            refused("put to -1, not at hand", ARGUMENT, x -> x.put(h, -1));
            refused("put to 4, not at hand", ARGUMENT, x -> x.put(h, 4));
            refused("test of 3, not at hand", ARGUMENT, x -> x.test(h, 3));
            refused("test of 25, not at hand", ARGUMENT, x -> x.test(h, 25));
        }
        for (int h = TOO_OLD; h <= UNTESTED; h++) {
            int notReady = h;
            refused("lend for 0 days, not ready", ARGUMENT, x -> x.lend(notReady, 0));
            refused("lend for 100 days, not ready", ARGUMENT, x -> x.lend(notReady, 100));
        }
        place = RefusedCallsTest::poor;
        refused("wrong kind, no money", ARGUMENT, x -> x.buy(-1, 5, 0));
        refused("wrong length, no money", ARGUMENT, x -> x.buy(0, 4, 0));
        refused("wrong coupling, no money", ARGUMENT, x -> x.buy(0, 5, 3));
        place = RefusedCallsTest::fullOfText;
        refused("code 32, no room", ARGUMENT, x -> x.append(32));
        refused("code 127, no room", ARGUMENT, x -> x.append(127));
    }

    private static void indexBeforeArgument() {
        place = RefusedCallsTest::crowded;
        int[] noHoses = {-1, NO_SUCH};
        for (int h : noHoses) {
            refused("put of none to 4", INDEX, x -> x.put(h, 4));
            refused("put of none to -1", INDEX, x -> x.put(h, -1));
            refused("lend of none for 0 days", INDEX, x -> x.lend(h, 0));
            refused("lend of none for 100 days", INDEX, x -> x.lend(h, 100));
            refused("test of none by 3", INDEX, x -> x.test(h, 3));
            refused("test of none by 25", INDEX, x -> x.test(h, 25));
            refused("look at none, what 10", INDEX, x -> x.hose(h, 10));
            refused("look at none, what -1", INDEX, x -> x.hose(h, -1));
            refused("ifTested of none by 3", INDEX, x -> x.ifTested(h, 3));
            refused("ifTested of none by 25", INDEX, x -> x.ifTested(h, 25));
        }
        int[] noTrucks = {-1, 3};
        for (int t : noTrucks) {
            refused("no truck wants -1", INDEX, x -> x.want(t, -1));
            refused("no truck wants 201", INDEX, x -> x.want(t, 201));
            refused("look at no truck, what -1", INDEX, x -> x.truck(t, -1));
            refused("look at no truck, what 7", INDEX, x -> x.truck(t, 7));
            refused("no setting to -1", INDEX, x -> x.set(t, -1));
            refused("no setting to 201", INDEX, x -> x.set(t, 201));
        }
    }

    private static void indexBeforeState() {
        place = RefusedCallsTest::crowded;
        refused("renew of -1, no room", INDEX, x -> x.renew(-1));
        refused("renew of 14, no room", INDEX, x -> x.renew(NO_SUCH));
        place = RefusedCallsTest::poor;
        refused("renew of -1, no money", INDEX, x -> x.renew(-1));
        refused("renew of 2, no money", INDEX, x -> x.renew(2));
    }
}
