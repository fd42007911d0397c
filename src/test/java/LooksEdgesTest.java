import java.math.BigInteger;

/** The boundary cases that the promises 15 to 24 name: each line has a test of its own, which quotes it. */
public final class LooksEdgesTest extends PromiseScene {

    public static void main(String[] args) {
        hose();
        truck();
        count();
        setting();
        ifTested();
        safe();
        nextLapse();
        helps();
        readyShare();
        digest();
        Document.promisesAreQuoted(15, 24);
        Check.end("LooksEdgesTest");
    }

    // ---- promise 15

    private static void hose() {
        takesItsNumber("Promise 15", 13, (x, h) -> x.hose(h, 0));
        whatOfAHose();
        strengthNow();
        Document.sentence("Promise 15", "Returns the number.");
        HoseTests y = withGoneAndLent();
        hoseIs(y, 0, LINEN, 5, 0, 1000, 7, 16, 1100, NONE, NONE, 1);
        hoseIs(y, 1, LINEN, 5, 0, 1000, 3, 16, 1100, NONE, NONE, 1);
        hoseIs(y, 2, LINEN, 5, 0, 1000, 3, 16, 1100, LENT, 1005, 2);
        hoseIs(y, 3, LINEN, 5, 0, 1000, 0, 16, NONE, STORE, NONE, 4);
        refusesNoSuchHose("Promise 15", (x, h) -> x.hose(h, 0));
        Document.sentence("Promise 15", "Throws `IllegalArgumentException` if what is not 0 to 9");
        refusesOutside(y, 0, 9, ARGUMENT, what -> y.hose(3, what));
        refusesOutside(y, 0, 9, ARGUMENT, what -> y.hose(0, what));
    }

    private static void whatOfAHose() {
        HoseTests x = rich();
        ready(x, RUBBER, 7, 2, 1);
        x.buy(LINEN, 5, 0);
        Document.sentence("Promise 15", "6: the last day of its test, NONE without one");
        Check.same("with one", x.hose(0, 6), 1150);
        Check.same("without one", x.hose(1, 6), NONE);
        Document.sentence("Promise 15", "7: its place, 0 to 4, NONE if it is gone");
        int[] places = {0, 1, 2, STORE};
        for (int place : places) {
            x.put(0, place);
            Check.same("place", x.hose(0, 7), place);
        }
        x.lend(0, 1);
        Check.same("place of a lent one", x.hose(0, 7), 4);
        burst(x, 1);
        Check.same("place of a gone one", x.hose(1, 7), NONE);
        Document.sentence("Promise 15", "8: the day on which it comes back, NONE if it is not lent");
        Check.same("lent", x.hose(0, 8), 1001);
        Check.same("gone", x.hose(1, 8), NONE);
        x.pass(1);
        Check.same("back", x.hose(0, 8), NONE);
        Document.sentence("Promise 15", "9: the reason why it is not ready, 0 if it is");
        Check.same("ready", x.hose(0, 9), 0);
        Check.same("gone", x.hose(1, 9), 1);
    }

    /** "Now" holds for a gone one, too: nothing in the document stops its age. */
    private static void strengthNow() {
        Document.sentence("Promise 15", "3: the day on which it was made; 4: its wear; 5: its strength now");
        HoseTests x = atDay(1);
        x.buy(LINEN, 5, 0);
        x.buy(LINED, 5, 0);
        wearBy(x, 0, 9);
        hoseIs(x, 0, LINEN, 5, 0, 1, 9, 16);
        wearBy(x, 0, 1);
        hoseIs(x, 0, LINEN, 5, 0, 1, 10, 15);
        burst(x, 0);
        hoseIs(x, 0, LINEN, 5, 0, 1, 13, 15);
        x.pass(99);
        hoseIs(x, 0, LINEN, 5, 0, 1, 13, 15);
        x.pass(1);
        hoseIs(x, 0, LINEN, 5, 0, 1, 13, 14);
        hoseIs(x, 1, LINED, 5, 0, 1, 0, 24);
    }

    // ---- promise 16

    private static void truck() {
        Document.sentence("Promise 16", TRUCK);
        HoseTests x = rich();
        for (int truck = 0; truck <= 2; truck++) {
            ready(x, LINEN, 5 + truck, 0, truck);
        }
        for (int truck = 0; truck <= 2; truck++) {
            truckIs(x, truck, 60, 5 + truck, 1, 1, 0, 1 << truck, 0);
        }
        hosesAndReadyHosesOfATruck();
        adaptersOfALine();
        maskOfALine();
        Document.sentence("Promise 16", "6: 1 if it is whole, otherwise 0");
        x.want(2, 7);
        Check.same("7 of 7", x.truck(2, 6), 1);
        x.want(2, 8);
        Check.same("7 of 8", x.truck(2, 6), 0);
        Document.sentence("Promise 16", "Returns the number.");
        truckIs(x, 2, 8, 7, 1, 1, 0, 4, 0);
        Document.sentence("Promise 16", NO_SUCH_TRUCK);
        refusesOutside(x, 0, 2, INDEX, truck -> x.truck(truck, 0));
        Document.sentence("Promise 16", "Throws `IllegalArgumentException` if what is not 0 to 6");
        refusesOutside(x, 0, 6, ARGUMENT, what -> x.truck(0, what));
    }

    private static void hosesAndReadyHosesOfATruck() {
        Document.sentence("Promise 16", "2: hoses on it; 3: ready hoses on it");
        HoseTests x = withReady(14);
        truckIs(x, 1, 60, 0, 0, 0, 0, 0, 0);
        for (int h = 0; h < 14; h++) {
            x.put(h, 1);
        }
        truckIs(x, 1, 60, 70, 14, 14, 0, (1 << 14) - 1, 1);
        passAll(x, 101);
        truckIs(x, 1, 60, 0, 14, 0, 0, 0, 0);
    }

    private static void adaptersOfALine() {
        Document.sentence("Promise 16", "4: adapters that its line needs");
        HoseTests x = rich();
        for (int h = 0; h < 7; h++) {
            ready(x, LINEN, 5, h % 2, 0);
        }
        for (int adapters = 0; adapters <= 5; adapters++) {
            x.set(1, adapters);
            Check.same("needed of " + adapters, x.truck(0, 4), adapters);
        }
        for (int h = 1; h < 7; h += 2) {
            x.put(h, STORE);
        }
        Check.same("not more than are needed", x.truck(0, 4), 0);
    }

    private static void maskOfALine() {
        Document.sentence("Promise 16", "5: a mask of the hoses of its line, with the bit h for the hose h");
        HoseTests x = withReady(14);
        for (int h = 0; h < 14; h++) {
            x.put(h, 0);
            Check.same("mask", x.truck(0, 5), 1 << h);
            x.put(h, STORE);
        }
        Check.same("mask of none", x.truck(0, 5), 0);
    }

    // ---- promise 17

    private static void count() {
        countsFromNothingOn();
        countOfWholeTrucks();
        countsSoFar();
        countOfSavedStates();
        Document.sentence("Promise 17", "Returns the number.");
        HoseTests x = withGoneAndLent();
        countsAre(x, 1000, 6760, 4, 2, 0, 1, 0, 4, 1, 40, 6);
        Document.sentence("Promise 17", "Throws `IllegalArgumentException` if what is not 0 to 10");
        refusesOutside(x, 0, 10, ARGUMENT, what -> x.count(what));
    }

    private static void countsFromNothingOn() {
        Document.sentence("Promise 17", "2: hoses, gone ones, too; 3: gone ones; 4: ready ones; 5: lent ones");
        HoseTests x = withReady(14);
        countsAre(x, 1000, 6660, 14, 0, 14, 0, 0, 14, 0, 140, 6);
        for (int h = 0; h < 7; h++) {
            x.lend(h, 1);
        }
        countsAre(x, 1000, 6660, 14, 0, 7, 7, 0, 14, 0, 140, 6);
        for (int h = 7; h < 14; h++) {
            burst(x, h);
        }
        countsAre(x, 1000, 6660, 14, 7, 0, 7, 0, 21, 7, 140, 6);
        x.pass(1);
        countsAre(x, 1001, 6660, 14, 7, 7, 0, 0, 21, 7, 140, 6);
    }

    private static void countOfWholeTrucks() {
        Document.sentence("Promise 17", "6: trucks that are whole");
        HoseTests x = new HoseTests();
        ready(x, LINEN, 60 - 10, 0, STORE);
        ready(x, LINEN, 10, 0, STORE);
        Check.same("none, with hoses in the store", x.count(6), 0);
        for (int truck = 0; truck <= 2; truck++) {
            x.want(truck, 0);
            Check.same("some", x.count(6), truck + 1);
        }
        x.want(0, 10);
        Check.same("one less", x.count(6), 2);
        x.put(1, 0);
        Check.same("whole again", x.count(6), 3);
    }

    private static void countsSoFar() {
        Document.sentence("Promise 17", "7: tests so far; 8: hoses that burst so far; 9: money that was paid so far");
        HoseTests x = new HoseTests();
        x.buy(LINEN, 5, 0);
        x.ifTested(0, 24);
        Check.refuses("test by 25", x, ARGUMENT, () -> x.test(0, 25));
        soFar(x, 0, 0, 10);
        x.test(0, 4);
        soFar(x, 1, 0, 10);
        x.renew(0);
        soFar(x, 1, 0, 20);
        burst(x, 1);
        soFar(x, 2, 1, 20);
        type(x, "n5a,l30b,l50c");
        x.buyAll();
        soFar(x, 2, 1, 160);
        x.pass(30);
        soFar(x, 2, 1, 160);
    }

    private static void soFar(HoseTests x, int tests, int bursts, int paid) {
        Check.same("tests", x.count(7), tests);
        Check.same("burst ones", x.count(8), bursts);
        Check.same("paid", x.count(9), paid);
    }

    private static void countOfSavedStates() {
        Document.sentence("Promise 17", "10: saved states");
        HoseTests x = new HoseTests();
        for (int calls = 0; calls <= 8; calls++) {
            Check.same("saved states", x.count(10), Math.min(calls, 6));
            x.want(0, calls);
        }
    }

    // ---- promise 18

    private static void setting() {
        Document.sentence("Promise 18", SETTING);
        HoseTests x = new HoseTests();
        Document.sentence("Promise 18", "Returns its value.");
        Check.same("setting 0", x.setting(0), 12);
        Check.same("setting 1", x.setting(1), 1);
        Check.same("setting 2", x.setting(2), 50);
        x.set(2, 200);
        Check.same("setting 2, changed", x.setting(2), 200);
        Check.same("setting 1, as it was", x.setting(1), 1);
        Document.sentence("Promise 18", NO_SUCH_SETTING);
        refusesOutside(x, 0, 2, INDEX, x::setting);
    }

    // ---- promise 19

    private static void ifTested() {
        alsoOfALentOne();
        takesItsNumber("Promise 19", 13, (x, h) -> x.ifTested(h, 4));
        Document.sentence("Promise 19", PRESSURE);
        HoseTests y = withReady(1);
        Check.same("the least", y.ifTested(0, 4), 1);
        Check.same("the greatest", y.ifTested(0, 24), 104);
        asWithTest();
        noneIfGone();
        refusesNoSuchHose("Promise 19", (x, h) -> x.ifTested(h, 4));
        Document.sentence("Promise 19", PRESSURE_RANGE);
        refusesOutside(y, 4, 24, ARGUMENT, pressure -> y.ifTested(0, pressure));
        burst(y, 0);
        refusesOutside(y, 4, 24, ARGUMENT, pressure -> y.ifTested(0, pressure));
    }

    private static void alsoOfALentOne() {
        Document.sentence("Promise 19", "Tells what a test would bring (also of a hose that is lent).");
        HoseTests x = withGoneAndLent();
        long before = x.digest();
        Check.same("16 of a lent one", x.ifTested(2, 16), 4);
        Check.same("17 of a lent one", x.ifTested(2, 17), 104);
        Check.same("nothing is changed", x.digest(), before);
    }

    private static void asWithTest() {
        Document.sentence("Promise 19", "Returns as with test()");
        int[] wears = {0, 3, 7, 9, 39, 98, 99};
        for (int kind = 0; kind <= 2; kind++) {
            for (int wear : wears) {
                for (int pressure = 4; pressure <= 24; pressure++) {
                    HoseTests x = new HoseTests();
                    x.buy(kind, 5, 0);
                    wearBy(x, 0, wear);
                    int told = x.ifTested(0, pressure);
                    Check.same("told again", x.ifTested(0, pressure), told);
                    Check.same("wear as it was", x.hose(0, 4), wear);
                    Check.same("kind " + kind + ", wear " + wear + ", pressure " + pressure, x.test(0, pressure), told);
                }
            }
        }
    }

    private static void noneIfGone() {
        Document.sentence("Promise 19", "NONE if the hose is gone");
        HoseTests x = withGoneAndLent();
        Check.same("burst", x.ifTested(0, 4), NONE);
        Check.same("given away", x.ifTested(1, 24), NONE);
        Check.same("the new one", x.ifTested(3, 24), 104);
    }

    // ---- promise 20

    private static void safe() {
        takesItsNumber("Promise 20", 13, HoseTests::safe);
        theGreatestOfEachKind();
        theGreatestIsTheLastThatHolds();
        theLeastThatIsSafe();
        safeOfGoneAndLent();
        refusesNoSuchHose("Promise 20", HoseTests::safe);
    }

    private static void theGreatestOfEachKind() {
        Document.sentence("Promise 20",
                "Returns the greatest pressure, 4 to 24, with which a test would not burst the hose");
        int[] greatest = {16, 20, 23};
        for (int kind = 0; kind <= 2; kind++) {
            HoseTests x = new HoseTests();
            x.buy(kind, 5, 0);
            Check.same("safe of kind " + kind, x.safe(0), greatest[kind]);
            Check.isTrue("a test holds", x.test(0, greatest[kind]) < 100);
        }
    }

    private static void theGreatestIsTheLastThatHolds() {
        Document.sentence("Promise 20", "with which a test would not burst the hose");
        for (int kind = 0; kind <= 2; kind++) {
            HoseTests x = new HoseTests();
            x.buy(kind, 5, 0);
            for (int wear = 0; wear <= 99; wear += 11) {
                int greatest = NONE;
                for (int pressure = 4; pressure <= 24; pressure++) {
                    greatest = x.ifTested(0, pressure) < 100 ? pressure : greatest;
                }
                Check.same("safe of kind " + kind + " by wear " + wear, x.safe(0), greatest);
                wearBy(x, 0, 11);
            }
        }
    }

    private static void theLeastThatIsSafe() {
        Document.sentence("Promise 20", "NONE if there is none");
        HoseTests x = new HoseTests();
        x.buy(LINEN, 5, 0);
        passAll(x, 1299);
        Check.same("strength", x.hose(0, 5), 4);
        Check.same("by a strength of 4", x.safe(0), 4);
        x.pass(1);
        Check.same("strength", x.hose(0, 5), 3);
        Check.same("by a strength of 3", x.safe(0), NONE);
        passAll(x, 400);
        Check.same("strength", x.hose(0, 5), 0);
        Check.same("by a strength of 0", x.safe(0), NONE);
    }

    private static void safeOfGoneAndLent() {
        Document.sentence("Promise 20", "or it is gone");
        HoseTests x = withGoneAndLent();
        Check.same("burst", x.safe(0), NONE);
        Check.same("given away", x.safe(1), NONE);
        Check.same("lent", x.safe(2), 16);
    }

    // ---- promise 21

    private static void nextLapse() {
        noneIsReady();
        behindTheLastDayOfATest();
        behindTheLastDayOfItsLife();
        theFirstOfAll();
        readyNow();
    }

    private static void noneIsReady() {
        Document.sentence("Promise 21", "NONE if none is ready");
        HoseTests x = new HoseTests();
        Check.same("no hose", x.nextLapse(), NONE);
        x.buy(LINEN, 5, 0);
        Check.same("not tested", x.nextLapse(), NONE);
        x.test(0, 12);
        x.lend(0, 5);
        Check.same("lent", x.nextLapse(), NONE);
        x.pass(5);
        Check.same("back", x.nextLapse(), 96);
        burst(x, 0);
        Check.same("gone", x.nextLapse(), NONE);
    }

    private static void behindTheLastDayOfATest() {
        Document.sentence("Promise 21",
                "Returns behind how many days the first of all hoses that are ready now would not be ready");
        int[] days = {101, 151, 201};
        for (int kind = 0; kind <= 2; kind++) {
            HoseTests x = new HoseTests();
            ready(x, kind, 5, 0, STORE);
            Check.same("on the day of the test", x.nextLapse(), days[kind]);
            passAll(x, days[kind] - 1);
            Check.same("ready on the last day", x.hose(0, 9), 0);
            Check.same("on the last day", x.nextLapse(), 1);
            x.pass(1);
            Check.same("behind it", x.nextLapse(), NONE);
        }
    }

    private static void behindTheLastDayOfItsLife() {
        Document.sentence("Promise 21",
                "the first of all hoses that are ready now would not be ready, with nothing done");
        int[] lives = {900, 1500, 1200};
        int[] inForce = {100, 150, 200};
        for (int kind = 0; kind <= 2; kind++) {
            HoseTests x = new HoseTests();
            x.set(0, 4);
            x.buy(kind, 5, 0);
            passAll(x, lives[kind] - inForce[kind] - 1);
            x.test(0, 4);
            Check.same("the test ends one day before its life", x.nextLapse(), inForce[kind] + 1);
            x.pass(1);
            x.test(0, 4);
            Check.same("both end on one day", x.nextLapse(), inForce[kind] + 1);
            x.pass(1);
            x.test(0, 4);
            Check.same("its life ends one day before the test", x.nextLapse(), inForce[kind]);
            passAll(x, inForce[kind] - 1);
            Check.same("on the last day of its life", x.nextLapse(), 1);
            x.pass(1);
            Check.same("behind it", x.nextLapse(), NONE);
        }
    }

    private static void theFirstOfAll() {
        Document.sentence("Promise 21", "the first of all hoses");
        HoseTests x = rich();
        ready(x, LINED, 5, 0, STORE);
        ready(x, LINEN, 5, 0, 2);
        ready(x, RUBBER, 5, 0, STORE);
        Check.same("the one in the middle", x.nextLapse(), 101);
        x.renew(1);
        Check.same("the last one", x.nextLapse(), 151);
        x.renew(2);
        Check.same("the first one", x.nextLapse(), 201);
    }

    private static void readyNow() {
        Document.sentence("Promise 21", "that are ready now");
        HoseTests x = rich();
        ready(x, LINEN, 5, 0, STORE);
        ready(x, LINED, 5, 0, STORE);
        x.lend(0, 1);
        Check.same("the lent one comes back, but is not ready now", x.nextLapse(), 201);
        x.pass(1);
        Check.same("now it is", x.nextLapse(), 100);
    }

    // ---- promise 22

    private static void helps() {
        Document.sentence("Promise 22", TRUCK);
        HoseTests x = rich();
        ready(x, LINEN, 50, 0, STORE);
        for (int truck = 0; truck <= 2; truck++) {
            Check.same("50 of 60", x.helps(truck), NONE);
            x.want(truck, 50);
            Check.same("50 of 50", x.helps(truck), 0);
        }
        asLongAsItWants();
        whichCostLeast();
        ofSeveralTheLowest();
        byItsNumberInTheLine();
        notReadyOrNotInTheStore();
        theTruckIsWhole();
        Document.sentence("Promise 22", NO_SUCH_TRUCK);
        refusesOutside(x, 0, 2, INDEX, x::helps);
    }

    private static void asLongAsItWants() {
        Document.sentence("Promise 22",
                "Returns the ready hose in the store with which, put on the truck, it would be whole");
        HoseTests x = rich();
        ready(x, LINEN, 20, 0, 1);
        ready(x, LINEN, 20, 0, STORE);
        x.want(1, 39);
        Check.same("40 of 39", x.helps(1), 1);
        x.want(1, 40);
        Check.same("40 of 40", x.helps(1), 1);
        x.want(1, 41);
        Check.same("40 of 41", x.helps(1), NONE);
        long before = x.digest();
        x.helps(1);
        Check.same("nothing is changed", x.digest(), before);
    }

    private static void whichCostLeast() {
        Document.sentence("Promise 22", "and which cost least when it was new");
        HoseTests x = rich();
        x.want(0, 20);
        ready(x, LINED, 20, 0, STORE);
        Check.same("lined for 90", x.helps(0), 0);
        ready(x, RUBBER, 29, 0, STORE);
        Check.same("rubber for 87", x.helps(0), 1);
        ready(x, LINEN, 43, 0, STORE);
        Check.same("linen for 86", x.helps(0), 2);
        ready(x, RUBBER, 20, 0, STORE);
        Check.same("rubber for 60", x.helps(0), 3);
        ready(x, LINEN, 20, 0, STORE);
        Check.same("linen for 40", x.helps(0), 4);
        ready(x, LINEN, 19, 0, STORE);
        Check.same("linen for 38 is too short", x.helps(0), 4);
        ready(x, LINEN, 21, 0, STORE);
        Check.same("linen for 42 is dearer", x.helps(0), 4);
    }

    private static void ofSeveralTheLowest() {
        Document.sentence("Promise 22", "of several the lowest");
        int[] kinds = {LINEN, RUBBER, LINED};
        int[] lengths = {45, 30, 20};
        for (int first = 0; first <= 2; first++) {
            HoseTests x = rich();
            x.want(2, 20);
            for (int i = 0; i < 3; i++) {
                int k = (first + i) % 3;
                ready(x, kinds[k], lengths[k], 0, STORE);
            }
            Check.same("three for 90", x.helps(2), 0);
            x.put(0, 1);
            Check.same("two for 90", x.helps(2), 1);
        }
        HoseTests last = withHoses(13);
        last.want(0, 5);
        ready(last, LINEN, 5, 0, STORE);
        Check.same("the last number", last.helps(0), 13);
    }

    private static void byItsNumberInTheLine() {
        Document.sentence("Promise 22", "put on the truck, it would be whole");
        HoseTests x = rich();
        x.set(1, 0);
        ready(x, LINEN, 20, 1, STORE);
        ready(x, LINEN, 30, 0, 0);
        ready(x, LINEN, 30, 1, 0);
        x.want(0, 50);
        Check.same("before the others, so that the last fits", x.helps(0), 0);
        x.want(0, 51);
        Check.same("50 of 51", x.helps(0), NONE);
        x.set(1, 1);
        Check.same("whole with an adapter", x.helps(0), NONE);
        x.want(0, 61);
        Check.same("60 and 20 need one too", x.helps(0), NONE);
        x.set(1, 2);
        Check.same("with two adapters", x.helps(0), 0);
    }

    private static void notReadyOrNotInTheStore() {
        Document.sentence("Promise 22", "NONE if there is none");
        HoseTests x = new HoseTests();
        x.want(0, 5);
        Check.same("no hose", x.helps(0), NONE);
        x.buy(LINEN, 5, 0);
        Check.same("not tested", x.helps(0), NONE);
        x.test(0, 12);
        Check.same("ready", x.helps(0), 0);
        x.put(0, 1);
        Check.same("on another truck", x.helps(0), NONE);
        x.lend(0, 100 - 1);
        Check.same("lent", x.helps(0), NONE);
        x.pass(99);
        Check.same("back", x.helps(0), 0);
        x.pass(1);
        Check.same("on the last day of its test", x.helps(0), 0);
        x.pass(1);
        Check.same("behind it", x.helps(0), NONE);
        x.test(0, 12);
        Check.same("tested again", x.helps(0), 0);
        burst(x, 0);
        Check.same("gone", x.helps(0), NONE);
    }

    private static void theTruckIsWhole() {
        Document.sentence("Promise 22", "or the truck is whole");
        HoseTests x = new HoseTests();
        ready(x, LINEN, 20, 0, STORE);
        x.want(0, 0);
        Check.same("it wants nothing", x.helps(0), NONE);
        x.want(0, 1);
        Check.same("it wants something", x.helps(0), 0);
        ready(x, LINEN, 10, 0, 0);
        x.want(0, 10);
        Check.same("it has it", x.helps(0), NONE);
        x.want(0, 11);
        Check.same("it wants more", x.helps(0), 0);
    }

    // ---- promise 23

    private static void readyShare() {
        Document.sentence("Promise 23", "1.0 without any");
        HoseTests x = new HoseTests();
        Check.sameShare("no hose", x.readyShare(), 1.0);
        x.buy(LINEN, 5, 0);
        burst(x, 0);
        Check.sameShare("all are gone", x.readyShare(), 1.0);
        Document.sentence("Promise 23", "Returns the ready hoses, as a double, divided by all that are not gone");
        x.buy(LINEN, 5, 0);
        Check.sameShare("0 of 1", x.readyShare(), 0.0);
        x.test(1, 12);
        Check.sameShare("1 of 1", x.readyShare(), 1.0);
        x.lend(1, 1);
        Check.sameShare("a lent one is not gone", x.readyShare(), 0.0);
        allShares();
    }

    private static void allShares() {
        for (int hoses = 1; hoses <= 14; hoses++) {
            HoseTests x = withHoses(hoses);
            for (int ready = 0; ready <= hoses; ready++) {
                Check.sameShare(ready + " of " + hoses, x.readyShare(), (double) ready / hoses);
                if (ready < hoses) {
                    x.test(ready, 12);
                }
            }
        }
    }

    // ---- promise 24

    private static void digest() {
        digestOfANewObject();
        digestWithOverflow();
        digestOfNoneAndAll();
        digestOfShares();
        digestOfTheBuffer();
        digestOf12();
    }

    private static void digestOfANewObject() {
        Document.sentence("Promise 24", "Returns the hash.");
        Document.sentence("Promise 24", "The hash starts at 3271.");
        long[] values = {0, 200, 0, 0, 0, 0, 0, 0, 0, 0, 0, 12, 1, 50, 60, 0, 0, 0, 0, 0, 0, -1, 60, 0, 0, 0, 0, 0, 0,
            -1, 60, 0, 0, 0, 0, 0, 0, -1, -1, 0x3ff0000000000000L, 0};
        Check.same("digest", new HoseTests().digest(), hashOf(values));
    }

    /** By numbers without a bound, cut to 64 bits in the end. */
    private static long hashOf(long[] values) {
        BigInteger hash = BigInteger.valueOf(3271);
        for (long v : values) {
            hash = hash.multiply(BigInteger.valueOf(31)).add(BigInteger.valueOf(v));
        }
        return hash.longValue();
    }

    private static void digestWithOverflow() {
        Document.sentence("Promise 24", "the hash becomes 31 * hash + v, in long arithmetic with overflow");
        HoseTests x = new HoseTests();
        x.buy(LINEN, 50, 2);
        x.test(0, 12);
        x.put(0, 2);
        x.want(2, 50);
        type(x, "~!");
        long[] values = {0, 100, 1, 0, 1, 0, 1, 1, 0, 100, 4, 12, 1, 50,
            0, 50, 2, 0, 3, 16, 100, 2, -1, 0, 3, 16,
            60, 0, 0, 0, 0, 0, 0, -1, 60, 0, 0, 0, 0, 0, 0, -1, 50, 50, 1, 1, 0, 1, 1, -1,
            101, 0x3ff0000000000000L, 2, 126, 33};
        Check.same("digest", x.digest(), hashOf(values));
    }

    private static void digestOfNoneAndAll() {
        Document.sentence("Promise 24", "for each hose its numbers 0 to 9, ifTested of 12, and safe");
        HoseTests none = new HoseTests();
        digestIsDue(none, "");
        HoseTests x = withGoneAndLent();
        digestIsDue(x, "");
        digestIsDue(withReady(14), "");
        long before = x.digest();
        Check.same("nothing is changed", x.digest(), before);
    }

    private static void digestOfShares() {
        Document.sentence("Promise 24", "the bits of readyShare (as Double.doubleToLongBits)");
        for (int hoses = 1; hoses <= 14; hoses++) {
            for (int ready = 0; ready <= hoses; ready++) {
                HoseTests x = withHoses(hoses);
                for (int h = 0; h < ready; h++) {
                    x.test(h, 12);
                }
                digestIsDue(x, "");
            }
        }
    }

    private static void digestOfTheBuffer() {
        Document.sentence("Promise 24", "the length of the buffer and each of its character codes");
        digestIsDue(withText(""), "");
        digestIsDue(withText("!"), "!");
        digestIsDue(withText("~"), "~");
        String full = PARTS + "n5a~";
        digestIsDue(withText(full), full);
        HoseTests cleared = withText(full);
        cleared.clearBuffer();
        type(cleared, "n5");
        digestIsDue(cleared, "n5");
    }

    private static void digestOf12() {
        Document.sentence("Promise 24", "ifTested of 12");
        HoseTests x = new HoseTests();
        x.buy(LINEN, 5, 0);
        passAll(x, 500);
        Check.same("held of 12", x.ifTested(0, 12), 102);
        Check.same("held of 11", x.ifTested(0, 11), 3);
        digestIsDue(x, "");
    }
}
