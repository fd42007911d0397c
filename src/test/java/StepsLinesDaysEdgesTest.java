/** The boundary cases that "Tests" (with trucks, days and money) and "Settings" name: each has a test of its own. */
public final class StepsLinesDaysEdgesTest extends Scene {

    public static void main(String[] args) {
        tests();
        trucksAndLines();
        daysAndMoney();
        settings();
        Check.end("StepsLinesDaysEdgesTest");
    }

    // ---- tests

    private static void tests() {
        theFirstStepIs4();
        fourMoreInEachNextStep();
        neverAboveTheOneAskedFor();
        holdsAStepByAsMuchStrength();
        eachStepItHoldsWears();
        theStrengthOfTheNextStepIsByThat();
        wearIsAtMost99InATest();
        aBurstOneIsGone();
        aBurstAtTheFirstStep();
        aBurstOneIsOnNoTruck();
        aBurstOneIsNotInTheStore();
        aBurstBringsNoTest();
        atLeastSetting0();
        setting0AtItsEnds();
        upToTheDayOfNowAndTheDaysOfItsKind();
    }

    private static void theFirstStepIs4() {
        Document.sentence("Tests", "the pressure is 4 in the first step");
        HoseTests x = new HoseTests();
        x.buy(LINEN, 5, 0);
        passAll(x, 1200);
        Check.same("strength", x.hose(0, 5), 4);
        Check.same("test", x.test(0, 4), 1);
        passAll(x, 100);
        Check.same("strength", x.hose(0, 5), 3);
        Check.same("test", x.test(0, 4), 100);
    }

    private static void fourMoreInEachNextStep() {
        Document.sentence("Tests", "and 4 more in each next one");
        int[] steps = {1, 2, 2, 2, 2, 3, 3, 3, 3, 4, 4, 4, 4, 5, 5, 5, 5, 6, 6, 6, 105};
        for (int pressure = 4; pressure <= 24; pressure++) {
            HoseTests x = new HoseTests();
            x.buy(LINED, 5, 0);
            Check.same("test " + pressure, x.test(0, pressure), steps[pressure - 4]);
        }
    }

    private static void neverAboveTheOneAskedFor() {
        Document.sentence("Tests", "but never above the one that is asked for, which is that of the last step");
        HoseTests x = new HoseTests();
        x.buy(LINED, 5, 0);
        wearBy(x, 0, 95);
        Check.same("strength", x.hose(0, 5), 5);
        Check.same("5 by 5", x.test(0, 5), 2);
        Check.same("strength", x.hose(0, 5), 5);
        Check.same("6 by 5", x.test(0, 6), 101);
    }

    private static void holdsAStepByAsMuchStrength() {
        Document.sentence("Tests", "the hose holds a step, if its strength is at least the pressure");
        HoseTests x = withHoses(2);
        Check.same("16 by 16", x.test(0, 16), 4);
        Check.same("17 by 16", x.test(1, 17), 104);
    }

    private static void eachStepItHoldsWears() {
        Document.sentence("Tests", "At each step that it holds, its wear becomes 1 more");
        HoseTests x = withHoses(1);
        x.test(0, 4);
        Check.same("by one step", x.hose(0, 4), 1);
        x.test(0, 16);
        Check.same("by four more", x.hose(0, 4), 5);
        x.test(0, 24);
        Check.same("by four more, not by the one that it did not hold", x.hose(0, 4), 9);
    }

    private static void theStrengthOfTheNextStepIsByThat() {
        Document.sentence("Tests", "the strength of the next step is by that");
        HoseTests x = withHoses(2);
        wearBy(x, 0, 6);
        Check.same("the last step by the wear 9", x.test(0, 16), 4);
        wearBy(x, 1, 7);
        Check.same("the last step by the wear 10", x.test(1, 16), 103);
    }

    private static void wearIsAtMost99InATest() {
        Document.sentence("Tests", "(at most 99;");
        HoseTests x = new HoseTests();
        x.buy(LINED, 5, 0);
        wearBy(x, 0, 98);
        Check.same("two steps", x.test(0, 5), 2);
        Check.same("wear", x.hose(0, 4), 99);
        Check.same("two steps", x.test(0, 5), 2);
        Check.same("wear", x.hose(0, 4), 99);
        Check.same("a burst", x.test(0, 8), 101);
        Check.same("wear", x.hose(0, 4), 99);
    }

    private static void aBurstOneIsGone() {
        Document.sentence("Tests", "If it does not hold a step, it bursts, and is gone");
        HoseTests x = withHoses(1);
        x.test(0, 16);
        Check.same("gone ones behind a test that it held", x.count(3), 0);
        x.test(0, 17);
        Check.same("gone ones", x.count(3), 1);
        Check.same("burst ones", x.count(8), 1);
        Check.same("reason", x.hose(0, 9), 1);
    }

    private static void aBurstAtTheFirstStep() {
        Document.sentence("Tests", "If it does not hold a step, it bursts, and is gone");
        HoseTests x = new HoseTests();
        x.buy(LINEN, 5, 0);
        passAll(x, 1300);
        Check.same("test", x.test(0, 4), 100);
        hoseIs(x, 0, LINEN, 5, 0, 0, 0, 3, NONE, NONE, NONE, 1);
        Check.same("burst ones", x.count(8), 1);
    }

    private static void aBurstOneIsOnNoTruck() {
        Document.sentence("Tests", "(it is on no truck then, nor in the store)");
        for (int truck = 0; truck <= 2; truck++) {
            HoseTests x = new HoseTests();
            ready(x, LINEN, 50, 0, truck);
            x.want(truck, 50);
            truckIs(x, truck, 50, 50, 1, 1, 0, 1, 1);
            burst(x, 0);
            truckIs(x, truck, 50, 0, 0, 0, 0, 0, 0);
            Check.same("place", x.hose(0, 7), NONE);
        }
    }

    private static void aBurstOneIsNotInTheStore() {
        Document.sentence("Tests", "(it is on no truck then, nor in the store)");
        HoseTests x = new HoseTests();
        ready(x, LINEN, 50, 0, STORE);
        x.want(0, 50);
        Check.same("helps", x.helps(0), 0);
        burst(x, 0);
        Check.same("helps", x.helps(0), NONE);
        Check.same("place", x.hose(0, 7), NONE);
    }

    private static void aBurstBringsNoTest() {
        Document.sentence("Tests", "If it holds all, and the pressure asked for was at least setting 0");
        HoseTests x = withHoses(2);
        burst(x, 0);
        Check.same("without a test before", x.hose(0, 6), NONE);
        x.test(1, 12);
        x.pass(1);
        burst(x, 1);
        Check.same("with a test before", x.hose(1, 6), 1100);
    }

    private static void atLeastSetting0() {
        Document.sentence("Tests", "the pressure asked for was at least setting 0");
        HoseTests x = withHoses(2);
        x.test(0, 11);
        Check.same("11 of 12", x.hose(0, 6), NONE);
        x.test(0, 12);
        Check.same("12 of 12", x.hose(0, 6), 1100);
        x.test(1, 13);
        Check.same("13 of 12", x.hose(1, 6), 1100);
        x.pass(1);
        x.test(0, 11);
        Check.same("11 of 12, another day", x.hose(0, 6), 1100);
    }

    private static void setting0AtItsEnds() {
        Document.sentence("Tests", "the pressure asked for was at least setting 0");
        HoseTests x = new HoseTests();
        x.set(0, 4);
        x.buy(LINED, 5, 0);
        x.test(0, 4);
        Check.same("4 of 4", x.hose(0, 6), 200);
        x.set(0, 23);
        x.buy(LINED, 5, 0);
        x.test(1, 23);
        Check.same("23 of 23", x.hose(1, 6), 200);
        x.set(0, 24);
        x.buy(LINED, 5, 0);
        Check.same("held", x.test(2, 23), 6);
        Check.same("23 of 24", x.hose(2, 6), NONE);
    }

    private static void upToTheDayOfNowAndTheDaysOfItsKind() {
        Document.sentence("Tests", "its test is in force up to the day of now and the days of its kind");
        HoseTests x = new HoseTests();
        x.buy(LINEN, 5, 0);
        x.test(0, 12);
        Check.same("on the day 0", x.hose(0, 6), 100);
        x.pass(1);
        x.test(0, 12);
        Check.same("on the day 1", x.hose(0, 6), 101);
    }

    // ---- trucks, lines

    private static void trucksAndLines() {
        aTruckWants0To200();
        anEmptyLine();
        onlyReadyOnes();
        byTheNumbersFrom0();
        upToTheLastNumber();
        noAdapterForTheSameCoupling();
        anAdapterForAnotherCoupling();
        adaptersOnEachTruck();
        noneLeft();
        oneLeft();
        fiveAdapters();
        theOneLeftOutChangesNothing();
        atLeastAsLong();
        wantsNothing();
        wants200();
    }

    private static void aTruckWants0To200() {
        Document.sentence("Tests", "A truck wants a length, 0 to 200, at first 60.");
        HoseTests x = new HoseTests();
        for (int t = 0; t <= 2; t++) {
            int truck = t;
            Check.same("at first", x.truck(truck, 0), 60);
            x.want(truck, 0);
            Check.same("the least", x.truck(truck, 0), 0);
            x.want(truck, 200);
            Check.same("the greatest", x.truck(truck, 0), 200);
            Check.refuses("-1", x, ARGUMENT, () -> x.want(truck, -1));
            Check.refuses("201", x, ARGUMENT, () -> x.want(truck, 201));
        }
    }

    private static void anEmptyLine() {
        Document.sentence("Tests", "Its line is laid of the ready hoses on it");
        truckIs(new HoseTests(), 0, 60, 0, 0, 0, 0, 0, 0);
    }

    private static void onlyReadyOnes() {
        Document.sentence("Tests", "Its line is laid of the ready hoses on it");
        HoseTests x = rich();
        x.set(1, 0);
        ready(x, LINEN, 5, 0, 0);
        x.put(x.buy(LINEN, 6, 1), 0);
        ready(x, LINEN, 7, 0, 0);
        ready(x, LINEN, 8, 0, 1);
        ready(x, LINEN, 9, 0, STORE);
        ready(x, LINEN, 10, 0, 0);
        x.lend(5, 1);
        ready(x, LINEN, 11, 0, 0);
        burst(x, 6);
        truckIs(x, 0, 60, 12, 3, 2, 0, 0b101, 0);
    }

    private static void byTheNumbersFrom0() {
        Document.sentence("Tests", "by the numbers of hoses from 0 on");
        HoseTests x = rich();
        x.set(1, 0);
        ready(x, LINEN, 5, 0, STORE);
        ready(x, LINEN, 6, 1, STORE);
        x.put(1, 0);
        x.put(0, 0);
        truckIs(x, 0, 60, 5, 2, 2, 0, 0b01, 0);
    }

    private static void upToTheLastNumber() {
        Document.sentence("Tests", "by the numbers of hoses from 0 on");
        HoseTests x = withHoses(13);
        ready(x, LINEN, 6, 2, 2);
        truckIs(x, 2, 60, 6, 1, 1, 0, 1 << 13, 0);
    }

    /** Hoses of 5, 6, 7.. metres with these couplings on the truck 0. */
    private static HoseTests coupled(int adapters, int... couplings) {
        HoseTests x = rich();
        x.set(1, adapters);
        for (int h = 0; h < couplings.length; h++) {
            ready(x, LINEN, 5 + h, couplings[h], 0);
        }
        return x;
    }

    private static void lineIs(HoseTests x, int length, int adapters, int mask) {
        Check.same("length", x.truck(0, 1), length);
        Check.same("adapters", x.truck(0, 4), adapters);
        Check.same("mask", x.truck(0, 5), mask);
    }

    private static void noAdapterForTheSameCoupling() {
        Document.sentence("Tests", "from one hose to the next one with another coupling it needs an adapter");
        lineIs(coupled(0, 2), 5, 0, 0b1);
        lineIs(coupled(5, 2, 2, 2), 18, 0, 0b111);
    }

    private static void anAdapterForAnotherCoupling() {
        Document.sentence("Tests", "from one hose to the next one with another coupling it needs an adapter");
        lineIs(coupled(5, 0, 1), 11, 1, 0b11);
        lineIs(coupled(5, 1, 0), 11, 1, 0b11);
        lineIs(coupled(5, 0, 2), 11, 1, 0b11);
        lineIs(coupled(5, 0, 1, 0), 18, 2, 0b111);
    }

    private static void adaptersOnEachTruck() {
        Document.sentence("Tests", "there are setting 1 adapters on each truck");
        HoseTests x = coupled(1, 0, 1);
        ready(x, LINEN, 10, 0, 1);
        ready(x, LINEN, 10, 1, 1);
        Check.same("the truck 0", x.truck(0, 1), 11);
        Check.same("the truck 1", x.truck(1, 1), 20);
        Check.same("the truck 0 again", x.truck(0, 1), 11);
    }

    private static void noneLeft() {
        Document.sentence("Tests", "a hose for which there is none left is left out of the line");
        lineIs(coupled(0, 0, 1), 5, 0, 0b01);
        lineIs(coupled(0, 2, 1, 0), 5, 0, 0b001);
    }

    private static void oneLeft() {
        Document.sentence("Tests", "a hose for which there is none left is left out of the line");
        lineIs(coupled(1, 0, 1), 11, 1, 0b11);
        lineIs(coupled(1, 0, 1, 0), 11, 1, 0b011);
    }

    private static void fiveAdapters() {
        Document.sentence("Tests", "a hose for which there is none left is left out of the line");
        lineIs(coupled(5, 0, 1, 0, 1, 0, 1), 45, 5, 0b111111);
        lineIs(coupled(5, 0, 1, 0, 1, 0, 1, 0), 45, 5, 0b0111111);
        lineIs(coupled(5, 0, 1, 0, 1, 0, 1, 0, 1), 57, 5, 0b10111111);
    }

    private static void theOneLeftOutChangesNothing() {
        Document.sentence("Tests", "a hose for which there is none left is left out of the line");
        lineIs(coupled(0, 0, 1, 0), 12, 0, 0b101);
        lineIs(coupled(0, 0, 1, 1), 5, 0, 0b001);
        lineIs(coupled(1, 0, 1, 2, 1), 19, 1, 0b1011);
    }

    private static void atLeastAsLong() {
        Document.sentence("Tests", "A truck is whole, if its line is at least as long as it wants.");
        HoseTests x = new HoseTests();
        ready(x, LINEN, 20, 0, 0);
        wholeIs(x, 19, 1);
        wholeIs(x, 20, 1);
        wholeIs(x, 21, 0);
    }

    private static void wholeIs(HoseTests x, int wanted, int due) {
        x.want(0, wanted);
        Check.same("whole for " + wanted, x.truck(0, 6), due);
        Check.same("whole trucks for " + wanted, x.count(6), due);
    }

    private static void wantsNothing() {
        Document.sentence("Tests", "A truck is whole, if its line is at least as long as it wants.");
        HoseTests x = new HoseTests();
        wholeIs(x, 0, 1);
        wholeIs(x, 1, 0);
    }

    private static void wants200() {
        Document.sentence("Tests", "A truck is whole, if its line is at least as long as it wants.");
        HoseTests x = rich();
        for (int h = 0; h < 3; h++) {
            ready(x, LINEN, 50, 0, 0);
        }
        ready(x, LINEN, 49, 0, 0);
        wholeIs(x, 199, 1);
        wholeIs(x, 200, 0);
        ready(x, LINEN, 50, 0, 0);
        wholeIs(x, 200, 1);
        Check.same("more than it wants", x.truck(0, 1), 249);
    }

    // ---- days, money

    private static void daysAndMoney() {
        atFirstTheDay0();
        theDayHas1More();
        firstTheDayThenTheRest();
        lentOnesComeBackOnTheirDay();
        comesBackBeforeWear();
        multiplesOf10();
        onTrucksAlone();
        readyOnesAlone();
        wearByDaysIsAtMost99();
        multiplesOf30();
        whatComesIsTheSettingThen();
        neverMoreThan9999();
        neverMoreThan9999BehindABuy();
        moneyAtFirst();
    }

    private static void atFirstTheDay0() {
        Document.sentence("Tests", "Days are numbered from 0; at first it is the day 0.");
        HoseTests x = new HoseTests();
        Check.same("day", x.count(0), 0);
        x.buy(LINEN, 5, 0);
        Check.same("made", x.hose(0, 3), 0);
    }

    private static void theDayHas1More() {
        Document.sentence("Tests", "When a day passes, the day has 1 more");
        HoseTests x = new HoseTests();
        Check.same("one day", x.pass(1), 1);
        Check.same("one day more", x.pass(1), 2);
        Check.same("a hundred", x.pass(100), 102);
    }

    private static void firstTheDayThenTheRest() {
        Document.sentence("Tests", "the day has 1 more, and then, in this order");
        HoseTests x = atDay(9);
        ready(x, LINEN, 5, 0, 0);
        passAll(x, 100);
        Check.same("worn by the days 10 to 100", x.hose(0, 4), 13);
        Check.same("ready on the day 109", x.hose(0, 9), 0);
        x.pass(1);
        Check.same("not ready any more, so not worn, on the day 110", x.hose(0, 4), 13);
        HoseTests y = atDay(10);
        ready(y, LINEN, 5, 0, 0);
        passAll(y, 100);
        Check.same("ready, so worn, on its last day", y.hose(0, 4), 13);
    }

    private static void lentOnesComeBackOnTheirDay() {
        Document.sentence("Tests", "hoses that are lent, and whose day it is, come back to the store");
        HoseTests x = new HoseTests();
        ready(x, LINEN, 5, 0, 2);
        ready(x, LINEN, 5, 0, STORE);
        x.lend(0, 7);
        x.lend(1, 8);
        x.pass(6);
        Check.same("on the day before", x.hose(0, 7), LENT);
        x.pass(1);
        Check.same("on its day, to the store", x.hose(0, 7), STORE);
        Check.same("no day of return any more", x.hose(0, 8), NONE);
        Check.same("the other one", x.hose(1, 7), LENT);
        x.lend(0, 50);
        x.pass(100);
        Check.same("with its day on the way", x.hose(0, 7), STORE);
        Check.same("lent ones", x.count(5), 0);
    }

    private static void comesBackBeforeWear() {
        Document.sentence("Tests", "hoses that are lent, and whose day it is, come back to the store");
        HoseTests x = new HoseTests();
        ready(x, LINEN, 5, 0, 0);
        x.lend(0, 10);
        x.pass(10);
        Check.same("in the store on the day 10, so not worn", x.hose(0, 4), 3);
    }

    private static void multiplesOf10() {
        Document.sentence("Tests",
                "if the number of the day is a multiple of 10, each ready hose on a truck has 1 wear more");
        HoseTests x = new HoseTests();
        ready(x, LINEN, 5, 0, 0);
        int[] days = {9, 10, 11, 19, 20, 21, 99, 100};
        int[] wear = {3, 4, 4, 4, 5, 5, 12, 13};
        for (int i = 0; i < days.length; i++) {
            x.pass(days[i] - x.count(0));
            Check.same("wear on the day " + days[i], x.hose(0, 4), wear[i]);
        }
    }

    private static void onTrucksAlone() {
        Document.sentence("Tests", "each ready hose on a truck has 1 wear more");
        HoseTests x = new HoseTests();
        int[] wear = {4, 4, 4, 3};
        for (int place = 0; place <= STORE; place++) {
            ready(x, LINEN, 5, 0, place);
        }
        x.pass(10);
        for (int h = 0; h < 4; h++) {
            Check.same("wear at the place " + h, x.hose(h, 4), wear[h]);
        }
    }

    private static void readyOnesAlone() {
        Document.sentence("Tests", "each ready hose on a truck has 1 wear more");
        HoseTests x = new HoseTests();
        x.buy(LINEN, 5, 0);
        x.put(0, 0);
        ready(x, LINEN, 5, 0, 0);
        x.lend(1, 30);
        x.pass(20);
        Check.same("not tested", x.hose(0, 4), 0);
        Check.same("lent", x.hose(1, 4), 3);
    }

    private static void wearByDaysIsAtMost99() {
        Document.sentence("Tests", "each ready hose on a truck has 1 wear more, at most 99");
        HoseTests x = new HoseTests();
        x.set(0, 4);
        x.buy(LINED, 5, 0);
        x.put(0, 1);
        wearBy(x, 0, 98);
        x.pass(10);
        Check.same("the last one", x.hose(0, 4), 99);
        x.pass(10);
        Check.same("no more", x.hose(0, 4), 99);
    }

    private static void multiplesOf30() {
        Document.sentence("Tests", "if it is a multiple of 30, setting 2 of money comes");
        HoseTests x = new HoseTests();
        int[] days = {29, 30, 31, 59, 60, 61, 89, 90};
        int[] money = {200, 250, 250, 250, 300, 300, 300, 350};
        for (int i = 0; i < days.length; i++) {
            x.pass(days[i] - x.count(0));
            Check.same("money on the day " + days[i], x.count(1), money[i]);
        }
    }

    private static void whatComesIsTheSettingThen() {
        Document.sentence("Tests", "if it is a multiple of 30, setting 2 of money comes");
        HoseTests x = atDay(29);
        x.set(2, 0);
        x.pass(1);
        Check.same("nothing", x.count(1), 200);
        x.set(2, 200);
        x.pass(30);
        Check.same("the most", x.count(1), 400);
    }

    /** With 9800 of money, on the day 48 * 30. */
    private static HoseTests almostFull() {
        HoseTests x = new HoseTests();
        x.set(2, 200);
        passAll(x, 48 * 30);
        Check.same("money", x.count(1), 9800);
        return x;
    }

    private static int moneyBehind30Days(HoseTests x, int income) {
        x.set(2, income);
        x.pass(30);
        return x.count(1);
    }

    private static void neverMoreThan9999() {
        Document.sentence("Tests", "but there is never more than 9999");
        Check.same("9800 and 198", moneyBehind30Days(almostFull(), 198), 9998);
        Check.same("9800 and 199", moneyBehind30Days(almostFull(), 199), 9999);
        HoseTests x = almostFull();
        Check.same("9800 and 200", moneyBehind30Days(x, 200), 9999);
        Check.same("9999 and 1", moneyBehind30Days(x, 1), 9999);
        Check.same("9999 and 200", moneyBehind30Days(x, 200), 9999);
    }

    private static void neverMoreThan9999BehindABuy() {
        Document.sentence("Tests", "but there is never more than 9999");
        HoseTests x = almostFull();
        moneyBehind30Days(x, 200);
        x.buy(LINEN, 5, 0);
        Check.same("9999 less 10", x.count(1), 9989);
        Check.same("9989 and 10", moneyBehind30Days(x, 10), 9999);
        Check.same("paid", x.count(9), 10);
    }

    private static void moneyAtFirst() {
        Document.sentence("Tests", "There is money, at first 200.");
        HoseTests x = new HoseTests();
        Check.same("money", x.count(1), 200);
        x.buy(LINEN, 50, 0);
        x.buy(LINEN, 50, 0);
        Check.same("all of it is spent", x.count(1), 0);
        Check.refuses("no more", x, STATE, () -> x.buy(LINEN, 5, 0));
    }

    // ---- settings

    private static void settings() {
        Document.sentence("Settings", "0: the pressure of a test that counts, 4 to 24, at first 12");
        settingIs(0, 4, 24, 12);
        Document.sentence("Settings", "1: adapters on each truck, 0 to 5, at first 1");
        settingIs(1, 0, 5, 1);
        Document.sentence("Settings", "2: money that comes, 0 to 200, at first 50");
        settingIs(2, 0, 200, 50);
    }

    private static void settingIs(int setting, int least, int greatest, int first) {
        HoseTests x = new HoseTests();
        Check.same("at first", x.setting(setting), first);
        x.set(setting, least);
        Check.same("the least", x.setting(setting), least);
        x.set(setting, greatest);
        Check.same("the greatest", x.setting(setting), greatest);
        Check.refuses("below the least", x, ARGUMENT, () -> x.set(setting, least - 1));
        Check.refuses("above the greatest", x, ARGUMENT, () -> x.set(setting, greatest + 1));
    }
}
