/** At least one test for each promise: ordinary inputs, the edges that the document names, and wrong inputs. */
public final class PromisesTest extends Scene {

    public static void main(String[] args) {
        promise01NewObject();
        promise02Buy();
        promise03Renew();
        promise04Put();
        promise05Lend();
        promise06Test();
        promise06Wear();
        promise07Want();
        promise08Set();
        promise09PassBringsBackAndWears();
        promise09PassBringsMoney();
        promise10Append();
        promise11ClearBuffer();
        promise12FirstError();
        promise13BuyAll();
        promise14Undo();
        promise14WhatSavesAState();
        promise15Hose();
        promise15Strength();
        promise15Reasons();
        promise16Truck();
        promise16Line();
        promise17Count();
        promise18Setting();
        promise19IfTested();
        promise20Safe();
        promise21NextLapse();
        promise22Helps();
        promise22HelpsChangesTheLine();
        promise23ReadyShare();
        promise24Digest();
        Check.end("PromisesTest");
    }

    // ---- the promises

    private static void promise01NewObject() {
        HoseTests x = new HoseTests();
        countsAre(x, 0, 200, 0, 0, 0, 0, 0, 0, 0, 0, 0);
        Check.same("setting(0)", x.setting(0), 12);
        Check.same("setting(1)", x.setting(1), 1);
        Check.same("setting(2)", x.setting(2), 50);
        for (int t = 0; t < 3; t++) {
            truckIs(x, t, 60, 0, 0, 0, 0, 0, 0);
            Check.same("helps", x.helps(t), NONE);
        }
        Check.same("firstError", x.firstError(), 0);
        Check.same("clearBuffer", x.clearBuffer(), 0);
        Check.same("nextLapse", x.nextLapse(), NONE);
        Check.sameShare("readyShare", x.readyShare(), 1.0);
        Check.refuses("undo", x, STATE, x::undo);
        Check.refuses("hose(0, 0)", x, INDEX, () -> x.hose(0, 0));

        HoseTests other = new HoseTests();
        long before = other.digest();
        x.buy(0, 5, 0);
        x.append('n');
        x.set(0, 4);
        x.want(0, 1);
        Check.same("digest of another object", other.digest(), before);
    }

    private static void promise02Buy() {
        HoseTests x = new HoseTests();
        x.pass(7);
        Check.same("buy", x.buy(LINEN, 20, 1), 0);
        hoseIs(x, 0, LINEN, 20, 1, 7, 0, 16, NONE, STORE, NONE, 4);
        Check.same("money behind 20 of linen", x.count(1), 160);
        Check.same("buy", x.buy(RUBBER, 20, 2), 1);
        hoseIs(x, 1, RUBBER, 20, 2, 7, 0, 20, NONE, STORE, NONE, 4);
        Check.same("money behind 20 of rubber", x.count(1), 100);
        Check.same("buy", x.buy(LINED, 20, 0), 2);
        hoseIs(x, 2, LINED, 20, 0, 7, 0, 24, NONE, STORE, NONE, 4);
        Check.same("money behind 20 of lined", x.count(1), 10);
        Check.same("paid", x.count(9), 190);
        Check.refuses("buy for 12", x, STATE, () -> x.buy(LINEN, 6, 0));
        Check.refuses("buy for 15", x, STATE, () -> x.buy(RUBBER, 5, 0));
        Check.same("buy for all the money", x.buy(LINEN, 5, 0), 3);
        Check.same("money", x.count(1), 0);
        Check.refuses("buy without money", x, STATE, () -> x.buy(LINEN, 5, 0));
        Check.refuses("buy a wrong one without money", x, ARGUMENT, () -> x.buy(LINEN, 4, 0));
        promise02BuyEdges();
    }

    private static void promise02BuyEdges() {
        HoseTests x = rich();
        Check.same("buy 50", x.buy(LINED, 50, 2), 0);
        Check.same("money", x.count(1), 6800 - 210);
        Check.refuses("kind -1", x, ARGUMENT, () -> x.buy(-1, 5, 0));
        Check.refuses("kind 3", x, ARGUMENT, () -> x.buy(3, 5, 0));
        Check.refuses("length 4", x, ARGUMENT, () -> x.buy(0, 4, 0));
        Check.refuses("length 51", x, ARGUMENT, () -> x.buy(0, 51, 0));
        Check.refuses("coupling -1", x, ARGUMENT, () -> x.buy(0, 5, -1));
        Check.refuses("coupling 3", x, ARGUMENT, () -> x.buy(0, 5, 3));
        for (int far : FAR) {
            Check.refuses("kind " + far, x, ARGUMENT, () -> x.buy(far, 5, 0));
            Check.refuses("length " + far, x, ARGUMENT, () -> x.buy(0, far, 0));
            Check.refuses("coupling " + far, x, ARGUMENT, () -> x.buy(0, 5, far));
        }
        for (int h = 1; h < 14; h++) {
            Check.same("buy", x.buy(LINEN, 5, 0), h);
        }
        x.test(3, 24);
        Check.same("gone", x.hose(3, 7), NONE);
        Check.refuses("buy a 15th", x, STATE, () -> x.buy(LINEN, 5, 0));
        Check.refuses("buy a wrong 15th", x, ARGUMENT, () -> x.buy(LINEN, 5, 3));
    }

    private static void promise03Renew() {
        HoseTests x = new HoseTests();
        Check.refuses("renew of none", x, INDEX, () -> x.renew(0));
        ready(x, RUBBER, 10, 2, 1);
        x.buy(LINED, 5, 1);
        x.pass(20);
        Check.same("money before", x.count(1), 140);
        Check.same("renew", x.renew(0), 2);
        hoseIs(x, 2, RUBBER, 10, 2, 20, 0, 20, NONE, 1, NONE, 4);
        hoseIs(x, 0, RUBBER, 10, 2, 0, 5, 20, 150, NONE, NONE, 1);
        Check.same("money", x.count(1), 110);
        Check.same("paid", x.count(9), 90);
        Check.same("gone ones", x.count(3), 1);
        Check.same("burst ones", x.count(8), 0);
        Check.same("renew in the store", x.renew(1), 3);
        Check.same("place", x.hose(3, 7), STORE);
        Check.refuses("renew of a gone one", x, STATE, () -> x.renew(0));
        Check.refuses("renew(-1)", x, INDEX, () -> x.renew(-1));
        Check.refuses("renew(4)", x, INDEX, () -> x.renew(4));
        x.test(2, 12);
        x.lend(2, 5);
        Check.refuses("renew of a lent one", x, STATE, () -> x.renew(2));
        for (int far : FAR) {
            Check.refuses("renew far", x, INDEX, () -> x.renew(far));
        }
        promise03RenewWithoutRoomOrMoney();
    }

    private static void promise03RenewWithoutRoomOrMoney() {
        HoseTests poor = new HoseTests();
        poor.buy(LINEN, 50, 0);
        poor.buy(LINEN, 26, 0);
        Check.same("money", poor.count(1), 48);
        Check.refuses("renew for 52 of 48", poor, STATE, () -> poor.renew(1));
        Check.refuses("renew of none for no money", poor, INDEX, () -> poor.renew(2));
        HoseTests even = new HoseTests();
        even.buy(LINEN, 50, 0);
        Check.same("renew for 100 of 100", even.renew(0), 1);
        Check.same("money", even.count(1), 0);
        HoseTests full = rich();
        for (int h = 0; h < 13; h++) {
            full.buy(LINEN, 5, 0);
        }
        Check.same("renew into the last number", full.renew(12), 13);
        Check.refuses("renew without room", full, STATE, () -> full.renew(13));
    }

    private static void promise04Put() {
        HoseTests x = new HoseTests();
        x.buy(LINEN, 5, 0);
        Check.same("put on 0", x.put(0, 0), STORE);
        Check.same("put on 1", x.put(0, 1), 0);
        Check.same("put on 2", x.put(0, 2), 1);
        Check.same("put where it is", x.put(0, 2), 2);
        Check.same("place", x.hose(0, 7), 2);
        Check.same("put into the store", x.put(0, STORE), 2);
        Check.same("place", x.hose(0, 7), STORE);
        Check.refuses("place -1", x, ARGUMENT, () -> x.put(0, -1));
        Check.refuses("place 4", x, ARGUMENT, () -> x.put(0, 4));
        Check.refuses("hose 1, place 4", x, INDEX, () -> x.put(1, 4));
        Check.refuses("hose -1", x, INDEX, () -> x.put(-1, 0));
        for (int far : FAR) {
            Check.refuses("hose far", x, INDEX, () -> x.put(far, 0));
            Check.refuses("place far", x, ARGUMENT, () -> x.put(0, far));
        }
        x.test(0, 12);
        x.lend(0, 3);
        Check.refuses("put of a lent one", x, STATE, () -> x.put(0, 0));
        Check.refuses("put of a lent one, place 4", x, ARGUMENT, () -> x.put(0, 4));
        x.pass(3);
        x.renew(0);
        Check.refuses("put of a gone one", x, STATE, () -> x.put(0, 0));
        Check.refuses("put of a gone one, place -1", x, ARGUMENT, () -> x.put(0, -1));
    }

    private static void promise05Lend() {
        HoseTests x = atDay(3);
        x.buy(LINEN, 5, 0);
        Check.refuses("lend of an untested one", x, STATE, () -> x.lend(0, 1));
        Check.refuses("lend of an untested one, no days", x, ARGUMENT, () -> x.lend(0, 0));
        x.test(0, 12);
        x.put(0, 2);
        Check.refuses("0 days", x, ARGUMENT, () -> x.lend(0, 0));
        Check.refuses("100 days", x, ARGUMENT, () -> x.lend(0, 100));
        Check.refuses("hose 1", x, INDEX, () -> x.lend(1, 0));
        Check.refuses("hose -1", x, INDEX, () -> x.lend(-1, 1));
        for (int far : FAR) {
            Check.refuses("hose far", x, INDEX, () -> x.lend(far, 1));
            Check.refuses("days far", x, ARGUMENT, () -> x.lend(0, far));
        }
        Check.same("lend", x.lend(0, 1), 4);
        hoseIs(x, 0, LINEN, 5, 0, 3, 3, 16, 103, LENT, 4, 2);
        Check.same("hoses on the truck", x.truck(2, 2), 0);
        Check.refuses("lend of a lent one", x, STATE, () -> x.lend(0, 1));
        x.pass(1);
        hoseIs(x, 0, LINEN, 5, 0, 3, 3, 16, 103, STORE, NONE, 0);
        Check.same("lend for 99", x.lend(0, 99), 103);
        x.pass(98);
        Check.same("lent on the day before", x.hose(0, 7), LENT);
        x.pass(1);
        Check.same("back on its day", x.hose(0, 7), STORE);
        x.pass(1);
        Check.refuses("lend of a lapsed one", x, STATE, () -> x.lend(0, 1));
        x.test(0, 24);
        Check.refuses("lend of a gone one", x, STATE, () -> x.lend(0, 1));
    }

    private static void promise06Test() {
        HoseTests x = atDay(5);
        x.buy(LINEN, 5, 0);
        x.buy(RUBBER, 5, 0);
        x.buy(LINED, 5, 0);
        Check.same("test 11", x.test(0, 11), 3);
        Check.same("no test in force by 11", x.hose(0, 6), NONE);
        Check.same("test 12", x.test(0, 12), 3);
        Check.same("linen is in force", x.hose(0, 6), 105);
        Check.same("wear", x.hose(0, 4), 6);
        x.test(1, 12);
        Check.same("rubber is in force", x.hose(1, 6), 155);
        x.test(2, 12);
        Check.same("lined is in force", x.hose(2, 6), 205);
        x.pass(1);
        Check.same("test 4", x.test(0, 4), 1);
        Check.same("the old test stays", x.hose(0, 6), 105);
        x.set(0, 4);
        Check.same("test 4 that counts", x.test(0, 4), 1);
        Check.same("the new test", x.hose(0, 6), 106);
        Check.same("tests", x.count(7), 6);
        Check.refuses("pressure 3", x, ARGUMENT, () -> x.test(0, 3));
        Check.refuses("pressure 25", x, ARGUMENT, () -> x.test(0, 25));
        Check.refuses("hose 3, pressure 3", x, INDEX, () -> x.test(3, 3));
        Check.refuses("hose -1", x, INDEX, () -> x.test(-1, 4));
        for (int far : FAR) {
            Check.refuses("hose far", x, INDEX, () -> x.test(far, 4));
            Check.refuses("pressure far", x, ARGUMENT, () -> x.test(0, far));
        }
        x.lend(0, 5);
        Check.refuses("test of a lent one", x, STATE, () -> x.test(0, 4));
        Check.refuses("test of a lent one, pressure 3", x, ARGUMENT, () -> x.test(0, 3));
        promise06Steps();
        promise06Bursts();
    }

    private static void promise06Steps() {
        int[] pressures = {4, 5, 8, 9, 12, 13, 16, 17, 20, 21, 23};
        int[] steps = {1, 2, 2, 3, 3, 4, 4, 5, 5, 6, 6};
        for (int i = 0; i < pressures.length; i++) {
            HoseTests x = new HoseTests();
            x.buy(LINED, 10, 0);
            Check.same("test " + pressures[i], x.test(0, pressures[i]), steps[i]);
            Check.same("wear by " + pressures[i], x.hose(0, 4), steps[i]);
        }
    }

    private static void promise06Bursts() {
        HoseTests x = new HoseTests();
        x.buy(LINEN, 5, 0);
        x.test(0, 12);
        x.put(0, 1);
        Check.same("16 by a strength of 16", x.test(0, 16), 4);
        wearBy(x, 0, 2);
        Check.same("wear", x.hose(0, 4), 9);
        Check.same("strength", x.hose(0, 5), 16);
        Check.same("16, the strength falls on the way", x.test(0, 16), 103);
        hoseIs(x, 0, LINEN, 5, 0, 0, 12, 15, 100, NONE, NONE, 1);
        Check.same("hoses on the truck", x.truck(1, 2), 0);
        Check.same("burst ones", x.count(8), 1);
        Check.same("gone ones", x.count(3), 1);
        Check.same("tests", x.count(7), 5);
        Check.refuses("test of a gone one", x, STATE, () -> x.test(0, 4));
        Check.refuses("test of a gone one, pressure 25", x, ARGUMENT, () -> x.test(0, 25));
        x.buy(LINEN, 5, 0);
        Check.same("17 of 16", x.test(1, 17), 104);
        Check.same("no test by a burst", x.hose(1, 6), NONE);
        HoseTests old = new HoseTests();
        old.buy(LINEN, 5, 0);
        passAll(old, 1300);
        Check.same("strength", old.hose(0, 5), 3);
        Check.same("burst at the first step", old.test(0, 4), 100);
        Check.same("wear", old.hose(0, 4), 0);
    }

    private static void promise06Wear() {
        HoseTests x = new HoseTests();
        x.buy(LINED, 10, 0);
        wearBy(x, 0, 98);
        Check.same("wear", x.hose(0, 4), 98);
        Check.same("test 5", x.test(0, 5), 2);
        Check.same("wear is at most 99", x.hose(0, 4), 99);
        Check.same("test 4", x.test(0, 4), 1);
        Check.same("wear is at most 99", x.hose(0, 4), 99);
        Check.same("strength", x.hose(0, 5), 5);
        Check.same("test 6", x.test(0, 6), 101);
        Check.same("wear is at most 99", x.hose(0, 4), 99);
    }

    private static void promise07Want() {
        HoseTests x = new HoseTests();
        Check.same("want", x.want(0, 0), 60);
        Check.same("want", x.want(0, 200), 0);
        Check.same("want", x.want(2, 1), 60);
        Check.same("truck 0", x.truck(0, 0), 200);
        Check.same("truck 1", x.truck(1, 0), 60);
        Check.same("truck 2", x.truck(2, 0), 1);
        Check.refuses("length -1", x, ARGUMENT, () -> x.want(0, -1));
        Check.refuses("length 201", x, ARGUMENT, () -> x.want(0, 201));
        Check.refuses("truck 3, length 201", x, INDEX, () -> x.want(3, 201));
        Check.refuses("truck -1", x, INDEX, () -> x.want(-1, 0));
        for (int far : FAR) {
            Check.refuses("truck far", x, INDEX, () -> x.want(far, 0));
            Check.refuses("length far", x, ARGUMENT, () -> x.want(0, far));
        }
    }

    private static void promise08Set() {
        int[] first = {12, 1, 50};
        int[] least = {4, 0, 0};
        int[] greatest = {24, 5, 200};
        for (int i = 0; i < 3; i++) {
            int s = i;
            HoseTests x = new HoseTests();
            Check.same("set to the least", x.set(s, least[s]), first[s]);
            Check.same("set to the greatest", x.set(s, greatest[s]), least[s]);
            for (int other = 0; other < 3; other++) {
                Check.same("setting", x.setting(other), other == s ? greatest[s] : first[other]);
            }
            Check.refuses("too little", x, ARGUMENT, () -> x.set(s, least[s] - 1));
            Check.refuses("too much", x, ARGUMENT, () -> x.set(s, greatest[s] + 1));
            for (int far : FAR) {
                Check.refuses("value far", x, ARGUMENT, () -> x.set(s, far));
                Check.refuses("setting far", x, INDEX, () -> x.set(far, 4));
            }
        }
        HoseTests x = new HoseTests();
        Check.refuses("setting 3", x, INDEX, () -> x.set(3, -1));
        Check.refuses("setting -1", x, INDEX, () -> x.set(-1, 4));
    }

    private static void promise09PassBringsBackAndWears() {
        HoseTests x = new HoseTests();
        Check.refuses("0 days", x, ARGUMENT, () -> x.pass(0));
        Check.refuses("101 days", x, ARGUMENT, () -> x.pass(101));
        for (int far : FAR) {
            Check.refuses("days far", x, ARGUMENT, () -> x.pass(far));
        }
        ready(x, LINEN, 5, 0, 0);
        ready(x, LINEN, 5, 0, STORE);
        x.buy(LINEN, 5, 0);
        x.put(2, 1);
        ready(x, LINEN, 5, 0, 2);
        x.lend(3, 10);
        ready(x, LINEN, 5, 0, 2);
        Check.same("pass", x.pass(9), 9);
        Check.same("no wear before the day 10", x.hose(0, 4), 3);
        Check.same("pass", x.pass(1), 10);
        Check.same("wear of a ready one on a truck", x.hose(0, 4), 4);
        Check.same("wear of a ready one on the last truck", x.hose(4, 4), 4);
        Check.same("wear in the store", x.hose(1, 4), 3);
        Check.same("wear of one that is not ready", x.hose(2, 4), 0);
        Check.same("wear of one that came back", x.hose(3, 4), 3);
        Check.same("place of one that came back", x.hose(3, 7), STORE);
        Check.same("pass", x.pass(100), 110);
        Check.same("wear by the days to 100", x.hose(0, 4), 13);
        promise09WearByTheNewDay();
        promise09WearIsAtMost99();
    }

    private static void promise09WearByTheNewDay() {
        HoseTests x = atDay(9);
        ready(x, LINEN, 5, 0, 0);
        x.pass(92);
        Check.same("wear to the day 101", x.hose(0, 4), 13);
        x.pass(8);
        Check.same("ready on the day 109", x.hose(0, 9), 0);
        x.pass(1);
        Check.same("not worn on the day 110", x.hose(0, 4), 13);
    }

    private static void promise09WearIsAtMost99() {
        HoseTests x = new HoseTests();
        x.set(0, 4);
        x.buy(LINED, 5, 0);
        x.put(0, 0);
        wearBy(x, 0, 98);
        x.pass(10);
        Check.same("wear", x.hose(0, 4), 99);
        x.pass(10);
        Check.same("wear is at most 99", x.hose(0, 4), 99);
    }

    private static void promise09PassBringsMoney() {
        HoseTests x = new HoseTests();
        x.pass(29);
        Check.same("money on the day 29", x.count(1), 200);
        x.pass(1);
        Check.same("money on the day 30", x.count(1), 250);
        x.set(2, 7);
        x.pass(60);
        Check.same("money on the day 90", x.count(1), 264);
        x.set(2, 0);
        x.pass(30);
        Check.same("money on the day 120", x.count(1), 264);
        x.set(2, 200);
        passAll(x, 48 * 30);
        Check.same("money before the limit", x.count(1), 9864);
        x.pass(30);
        Check.same("never more than 9999", x.count(1), 9999);
        x.pass(30);
        Check.same("never more than 9999", x.count(1), 9999);
        Check.same("paid", x.count(9), 0);
    }

    private static void promise10Append() {
        HoseTests x = new HoseTests();
        Check.refuses("code 32", x, ARGUMENT, () -> x.append(32));
        Check.refuses("code 127", x, ARGUMENT, () -> x.append(127));
        for (int far : FAR) {
            Check.refuses("code far", x, ARGUMENT, () -> x.append(far));
        }
        Check.same("append 33", x.append(33), 1);
        Check.same("append 126", x.append(126), 2);
        for (int n = 3; n <= 60; n++) {
            Check.same("append", x.append('x'), n);
        }
        Check.refuses("a 61st", x, STATE, () -> x.append('x'));
        Check.refuses("a wrong 61st", x, ARGUMENT, () -> x.append(127));
        Check.same("saved states", x.count(10), 0);
        Check.same("length", x.clearBuffer(), 60);
    }

    private static void promise11ClearBuffer() {
        HoseTests x = new HoseTests();
        long before = x.digest();
        type(x, "n5a");
        Check.same("clearBuffer", x.clearBuffer(), 3);
        Check.same("clearBuffer again", x.clearBuffer(), 0);
        Check.same("digest", x.digest(), before);
        Check.same("append behind it", x.append('n'), 1);
        Check.same("saved states", x.count(10), 0);
    }

    private static void promise12FirstError() {
        errorAt("", 0);
        errorAt("n", 1);
        errorAt("r", 1);
        errorAt("l", 1);
        errorAt("N5a", 0);
        errorAt("x", 0);
        errorAt(",", 0);
        errorAt("5", 0);
        errorAt("a", 0);
        errorAt("na", 1);
        errorAt("n0", 1);
        errorAt("n05a", 1);
        errorAt("n,", 1);
        for (char digit = '1'; digit <= '4'; digit++) {
            errorAt("n" + digit, 2);
            errorAt("n" + digit + "a", 2);
            errorAt("n" + digit + ",", 2);
            errorAt("n" + digit + "0a", 4);
            errorAt("n" + digit + "9c", 4);
            errorAt("n" + digit + "99", 3);
            errorAt("n" + digit + "9,", 3);
        }
        errorAt("n5", 2);
        errorAt("n5a", 3);
        errorAt("n50", 3);
        errorAt("n50b", 4);
        errorAt("n500", 3);
        errorAt("n51", 2);
        errorAt("n5,", 2);
        for (char digit = '6'; digit <= '9'; digit++) {
            errorAt("n" + digit + "a", 3);
            errorAt("n" + digit + "0", 2);
        }
        errorAt("n5d", 2);
        errorAt("n5A", 2);
        errorAt("n20aa", 4);
        errorAt("n20an", 4);
        errorAt("n20a,", 5);
        errorAt("n20a,,", 5);
        errorAt("n20a,r15b,l10c", 14);
        errorAt("n20a,r15b,l10d", 13);
        errorAt("x,x,x", 0);
        errorAt("n20a,r15b,l10a,n25c,n20a,r15b,l10a,n25c,n20a,r15b,l10a,n25c,", 60);
    }

    private static void errorAt(String text, int due) {
        HoseTests x = new HoseTests();
        type(x, text);
        Check.same("firstError of " + text, x.firstError(), due);
        Check.same("length behind it", x.clearBuffer(), text.length());
    }

    private static void promise13BuyAll() {
        String[] wrong = {"", "n", "n4", "n5", "n50", "n5a,", "n5a,r", "n5a,,n5a", "n4a", "n51a", "n05a", "n5a;", "N5a"};
        for (String text : wrong) {
            HoseTests x = new HoseTests();
            type(x, text);
            Check.refuses("buyAll of " + text, x, ARGUMENT, x::buyAll);
        }
        HoseTests x = new HoseTests();
        x.pass(2);
        type(x, "n20a,r15b,l10c");
        Check.same("buyAll", x.buyAll(), 3);
        hoseIs(x, 0, LINEN, 20, 0, 2, 0, 16, NONE, STORE, NONE, 4);
        hoseIs(x, 1, RUBBER, 15, 1, 2, 0, 20, NONE, STORE, NONE, 4);
        hoseIs(x, 2, LINED, 10, 2, 2, 0, 24, NONE, STORE, NONE, 4);
        Check.same("money", x.count(1), 200 - 40 - 45 - 50);
        Check.same("paid", x.count(9), 135);
        Check.same("the buffer is clear", x.clearBuffer(), 0);
        Check.same("saved states", x.count(10), 2);
        x.undo();
        Check.same("hoses behind undo", x.count(2), 0);
        Check.same("the buffer behind undo", x.clearBuffer(), 0);
        promise13BuyAllStops();
    }

    private static void promise13BuyAllStops() {
        HoseTests x = new HoseTests();
        type(x, "n50a,r40b,n5c");
        Check.same("buyAll up to one that is too dear", x.buyAll(), 1);
        Check.same("hoses", x.count(2), 1);
        Check.same("money", x.count(1), 100);
        Check.same("the buffer is clear", x.clearBuffer(), 0);
        type(x, "l50c");
        Check.same("buyAll of none", x.buyAll(), 0);
        Check.same("the buffer is clear", x.clearBuffer(), 0);
        Check.same("saved states", x.count(10), 2);
        HoseTests longest = rich();
        type(longest, "n10a,n11a,n12a,n13a,n14a,n15a,n16a,n17a,n18a,n5a,n6a,n7a,l9c");
        Check.same("buyAll of 60 characters", longest.buyAll(), 13);
        hoseIs(longest, 12, LINED, 9, 2, 1000, 0, 24, NONE, STORE, NONE, 4);
        HoseTests full = new HoseTests();
        type(full, "n5a,n6a,n7a,n5a,n5a,n5a,n5a,n5a,n5a,n5a,n5a,n5a,n5a,n5a,n5a");
        Check.same("buyAll up to 14", full.buyAll(), 14);
        Check.same("hoses", full.count(2), 14);
        Check.same("length of the third", full.hose(2, 1), 7);
        type(full, "n5a");
        Check.same("buyAll without room", full.buyAll(), 0);
    }

    private static void promise14Undo() {
        HoseTests x = new HoseTests();
        Check.refuses("undo of nothing", x, STATE, x::undo);
        long[] digests = new long[10];
        Runnable[] calls = {
            () -> x.buy(LINED, 10, 1), () -> x.test(0, 12), () -> x.put(0, 1), () -> x.want(1, 10),
            () -> x.set(1, 4), () -> x.pass(33), () -> x.renew(0), () -> x.test(1, 24), () -> x.buy(LINEN, 5, 2),
        };
        for (int i = 0; i < calls.length; i++) {
            digests[i] = stateOf(x);
            calls[i].run();
            Check.same("saved states", x.count(10), Math.min(6, i + 1));
        }
        type(x, "n5");
        for (int left = 5; left >= 0; left--) {
            Check.same("undo", x.undo(), left);
            Check.same("saved states", x.count(10), left);
            Check.same("state behind undo", stateOf(x), digests[left + 3]);
        }
        Check.refuses("undo of nothing", x, STATE, x::undo);
        Check.same("undo leaves the buffer", x.clearBuffer(), 2);
        promise14UndoOfWhatWasCounted();
    }

    /** All that undo restores, by looks alone. */
    private static long stateOf(HoseTests x) {
        long hash = 1;
        for (int what = 0; what < 10; what++) {
            hash = hash * 31 + x.count(what);
        }
        for (int s = 0; s < 3; s++) {
            hash = hash * 31 + x.setting(s);
        }
        for (int h = 0; h < x.count(2); h++) {
            for (int what = 0; what < 10; what++) {
                hash = hash * 31 + x.hose(h, what);
            }
        }
        for (int t = 0; t < 3; t++) {
            hash = hash * 31 + x.truck(t, 0);
        }
        return hash;
    }

    private static void promise14UndoOfWhatWasCounted() {
        HoseTests x = new HoseTests();
        x.buy(LINEN, 5, 0);
        x.test(0, 24);
        countsAre(x, 0, 190, 1, 1, 0, 0, 0, 1, 1, 10, 2);
        x.undo();
        countsAre(x, 0, 190, 1, 0, 0, 0, 0, 0, 0, 10, 1);
        x.undo();
        countsAre(x, 0, 200, 0, 0, 0, 0, 0, 0, 0, 0, 0);
        x.buy(RUBBER, 5, 0);
        x.test(0, 12);
        x.lend(0, 4);
        x.pass(100);
        x.undo();
        Check.same("day", x.count(0), 0);
        Check.same("place", x.hose(0, 7), LENT);
        Check.same("day of its return", x.hose(0, 8), 4);
        x.undo();
        Check.same("place", x.hose(0, 7), STORE);
        Check.same("day of its return", x.hose(0, 8), NONE);
        Check.same("saved states behind undo of lend", x.count(10), 2);
        x.undo();
        hoseIs(x, 0, RUBBER, 5, 0, 0, 0, 20, NONE, STORE, NONE, 4);
    }

    private static void promise14WhatSavesAState() {
        HoseTests x = new HoseTests();
        x.buy(LINEN, 5, 0);
        x.put(0, STORE);
        Check.same("put to the same place saves", x.count(10), 2);
        x.want(0, 60);
        Check.same("want of the same saves", x.count(10), 3);
        x.set(0, 12);
        Check.same("set to the same saves", x.count(10), 4);
        type(x, "n50a");
        Check.same("append does not save", x.count(10), 4);
        x.buyAll();
        Check.same("buyAll saves", x.count(10), 5);
        x.test(0, 12);
        Check.same("test saves", x.count(10), 6);
        x.undo();
        x.clearBuffer();
        x.firstError();
        x.ifTested(0, 12);
        x.safe(0);
        x.nextLapse();
        x.helps(0);
        x.readyShare();
        x.digest();
        x.truck(0, 1);
        x.setting(0);
        Check.same("looks do not save", x.count(10), 5);
        Check.refuses("put of none", x, INDEX, () -> x.put(9, 0));
        Check.same("what throws does not save", x.count(10), 5);
        x.pass(1);
        x.pass(1);
        Check.same("at most 6", x.count(10), 6);
    }

    private static void promise15Hose() {
        HoseTests x = new HoseTests();
        Check.refuses("hose 0 of none", x, INDEX, () -> x.hose(0, 0));
        ready(x, RUBBER, 7, 2, 1);
        x.pass(10);
        hoseIs(x, 0, RUBBER, 7, 2, 0, 4, 20, 150, 1, NONE, 0);
        Check.refuses("what -1", x, ARGUMENT, () -> x.hose(0, -1));
        Check.refuses("what 10", x, ARGUMENT, () -> x.hose(0, 10));
        Check.refuses("hose 1, what 10", x, INDEX, () -> x.hose(1, 10));
        Check.refuses("hose -1", x, INDEX, () -> x.hose(-1, 0));
        for (int far : FAR) {
            Check.refuses("hose far", x, INDEX, () -> x.hose(far, 0));
            Check.refuses("what far", x, ARGUMENT, () -> x.hose(0, far));
        }
        x.lend(0, 3);
        hoseIs(x, 0, RUBBER, 7, 2, 0, 4, 20, 150, LENT, 13, 2);
        x.pass(3);
        x.renew(0);
        hoseIs(x, 0, RUBBER, 7, 2, 0, 4, 20, 150, NONE, NONE, 1);
        hoseIs(x, 1, RUBBER, 7, 2, 13, 0, 20, NONE, STORE, NONE, 4);
    }

    private static void promise15Strength() {
        int[] wears = {0, 4, 5, 7, 8, 9, 10, 39, 40, 99};
        int[] linen = {16, 16, 16, 16, 16, 16, 15, 13, 12, 7};
        int[] rubber = {20, 20, 20, 20, 19, 19, 19, 16, 15, 8};
        int[] lined = {24, 24, 23, 23, 23, 23, 22, 17, 16, 5};
        HoseTests x = new HoseTests();
        x.buy(LINEN, 5, 0);
        x.buy(RUBBER, 5, 0);
        x.buy(LINED, 5, 0);
        int wear = 0;
        for (int i = 0; i < wears.length; i++) {
            for (int h = 0; h < 3; h++) {
                wearBy(x, h, wears[i] - wear);
            }
            wear = wears[i];
            Check.same("linen by wear " + wear, x.hose(0, 5), linen[i]);
            Check.same("rubber by wear " + wear, x.hose(1, 5), rubber[i]);
            Check.same("lined by wear " + wear, x.hose(2, 5), lined[i]);
        }
        strengthByAge(LINEN, new int[] {99, 100, 199, 200, 899, 1500, 1599, 1600, 1700},
                new int[] {16, 15, 15, 14, 8, 1, 1, 0, 0});
        strengthByAge(RUBBER, new int[] {100, 199, 200, 399, 400, 3999, 4000, 4200},
                new int[] {20, 20, 19, 19, 18, 1, 0, 0});
        strengthByAge(LINED, new int[] {99, 100, 1000, 3000}, new int[] {24, 24, 24, 24});
        strengthOfAGoneOne();
    }

    private static void strengthByAge(int kind, int[] ages, int[] due) {
        HoseTests x = atDay(50);
        x.buy(kind, 5, 0);
        for (int i = 0; i < ages.length; i++) {
            passAll(x, 50 + ages[i] - x.count(0));
            Check.same("strength of kind " + kind + " at the age " + ages[i], x.hose(0, 5), due[i]);
        }
    }

    /** "Its strength now" is asked of a gone hose, too; nothing in the document stops its age. */
    private static void strengthOfAGoneOne() {
        HoseTests x = new HoseTests();
        x.buy(LINEN, 5, 0);
        x.renew(0);
        x.pass(100);
        Check.same("strength of a gone one", x.hose(0, 5), 15);
    }

    private static void promise15Reasons() {
        int[] lives = {900, 1500, 1200};
        for (int kind = 0; kind < 3; kind++) {
            HoseTests x = atDay(10);
            x.set(0, 4);
            x.buy(kind, 5, 0);
            Check.same("without a test", x.hose(0, 9), 4);
            passAll(x, lives[kind] - 5);
            Check.same("without a test", x.hose(0, 9), 4);
            x.test(0, 4);
            Check.same("in force", x.hose(0, 9), 0);
            x.pass(5);
            Check.same("at the end of its life", x.hose(0, 9), 0);
            x.lend(0, 2);
            x.pass(1);
            Check.same("lent and too old", x.hose(0, 9), 2);
            x.pass(1);
            Check.same("too old", x.hose(0, 9), 3);
            x.test(0, 4);
            Check.same("too old, whatever is tested", x.hose(0, 9), 3);
            x.pass(100);
            x.pass(100);
            x.pass(100);
            Check.same("too old and not in force", x.hose(0, 9), 3);
            x.renew(0);
            Check.same("gone and too old", x.hose(0, 9), 1);
            x.test(1, 4);
            passAll(x, lives[kind] - 5);
            x.test(1, 4);
            x.pass(5);
            Check.same("at the end of its life", x.hose(1, 9), 0);
            x.pass(1);
            Check.same("behind the end of its life", x.hose(1, 9), 3);
        }
        int[] inForce = {100, 150, 200};
        for (int kind = 0; kind < 3; kind++) {
            HoseTests x = atDay(10);
            x.buy(kind, 5, 0);
            x.test(0, 12);
            passAll(x, inForce[kind]);
            Check.same("on the last day", x.hose(0, 9), 0);
            x.pass(1);
            Check.same("behind the last day", x.hose(0, 9), 4);
        }
    }

    private static void promise16Truck() {
        HoseTests x = new HoseTests();
        ready(x, LINEN, 10, 0, 1);
        x.buy(LINEN, 11, 0);
        x.put(1, 1);
        ready(x, LINEN, 12, 0, 1);
        ready(x, LINEN, 13, 0, 2);
        ready(x, LINEN, 5, 0, STORE);
        x.want(1, 23);
        truckIs(x, 0, 60, 0, 0, 0, 0, 0, 0);
        truckIs(x, 1, 23, 22, 3, 2, 0, 1 | 4, 0);
        truckIs(x, 2, 60, 13, 1, 1, 0, 8, 0);
        x.want(1, 22);
        truckIs(x, 1, 22, 22, 3, 2, 0, 1 | 4, 1);
        x.test(2, 24);
        truckIs(x, 1, 22, 10, 2, 1, 0, 1, 0);
        x.lend(0, 5);
        truckIs(x, 1, 22, 0, 1, 0, 0, 0, 0);
        x.want(0, 0);
        Check.same("wants nothing", x.truck(0, 6), 1);
        Check.refuses("what -1", x, ARGUMENT, () -> x.truck(0, -1));
        Check.refuses("what 7", x, ARGUMENT, () -> x.truck(0, 7));
        Check.refuses("truck 3, what 7", x, INDEX, () -> x.truck(3, 7));
        Check.refuses("truck -1", x, INDEX, () -> x.truck(-1, 0));
        for (int far : FAR) {
            Check.refuses("truck far", x, INDEX, () -> x.truck(far, 0));
            Check.refuses("what far", x, ARGUMENT, () -> x.truck(0, far));
        }
    }

    private static void promise16Line() {
        HoseTests x = rich();
        int[] couplings = {0, 1, 1, 0, 2, 2, 1};
        for (int h = 0; h < couplings.length; h++) {
            ready(x, LINEN, 5 + h, couplings[h], 0);
        }
        lineIs(x, 0, 5 + 8, 0, 0b0001001);
        lineIs(x, 1, 5 + 6 + 7 + 11, 1, 0b1000111);
        lineIs(x, 2, 5 + 6 + 7 + 8, 2, 0b0001111);
        lineIs(x, 3, 5 + 6 + 7 + 8 + 9 + 10, 3, 0b0111111);
        lineIs(x, 4, 5 + 6 + 7 + 8 + 9 + 10 + 11, 4, 0b1111111);
        lineIs(x, 5, 56, 4, 0b1111111);
        x.put(0, 1);
        lineIs(x, 0, 6 + 7 + 11, 0, 0b1000110);
        HoseTests last = rich();
        for (int h = 0; h < 13; h++) {
            last.buy(LINEN, 5, 0);
        }
        ready(last, LINEN, 50, 2, 2);
        truckIs(last, 2, 60, 50, 1, 1, 0, 1 << 13, 0);
    }

    private static void lineIs(HoseTests x, int adapters, int length, int used, int mask) {
        x.set(1, adapters);
        Check.same("line by " + adapters, x.truck(0, 1), length);
        Check.same("adapters used of " + adapters, x.truck(0, 4), used);
        Check.same("mask by " + adapters, x.truck(0, 5), mask);
    }

    private static void promise17Count() {
        HoseTests x = new HoseTests();
        ready(x, LINEN, 10, 0, 0);
        ready(x, LINEN, 10, 0, STORE);
        x.lend(1, 50);
        x.buy(LINEN, 5, 0);
        x.test(2, 24);
        x.buy(LINEN, 5, 0);
        x.renew(3);
        x.want(0, 10);
        x.want(1, 0);
        x.pass(31);
        countsAre(x, 31, 250 - 70, 5, 2, 1, 1, 2, 3, 1, 70, 6);
        x.test(4, 4);
        Check.same("tests that do not count are counted", x.count(7), 4);
        Check.refuses("what -1", x, ARGUMENT, () -> x.count(-1));
        Check.refuses("what 11", x, ARGUMENT, () -> x.count(11));
        for (int far : FAR) {
            Check.refuses("what far", x, ARGUMENT, () -> x.count(far));
        }
    }

    private static void promise18Setting() {
        HoseTests x = new HoseTests();
        x.set(0, 20);
        x.set(1, 3);
        x.set(2, 99);
        Check.same("setting 0", x.setting(0), 20);
        Check.same("setting 1", x.setting(1), 3);
        Check.same("setting 2", x.setting(2), 99);
        Check.refuses("setting -1", x, INDEX, () -> x.setting(-1));
        Check.refuses("setting 3", x, INDEX, () -> x.setting(3));
        for (int far : FAR) {
            Check.refuses("setting far", x, INDEX, () -> x.setting(far));
        }
    }

    private static void promise19IfTested() {
        HoseTests x = new HoseTests();
        x.buy(LINEN, 5, 0);
        long before = x.digest();
        Check.same("ifTested 4", x.ifTested(0, 4), 1);
        Check.same("ifTested 16", x.ifTested(0, 16), 4);
        Check.same("ifTested 17", x.ifTested(0, 17), 104);
        Check.same("ifTested 24", x.ifTested(0, 24), 104);
        Check.same("nothing is changed", x.digest(), before);
        wearBy(x, 0, 9);
        Check.same("the strength falls on the way", x.ifTested(0, 16), 103);
        Check.same("as with test", x.ifTested(0, 15), 4);
        x.test(0, 12);
        x.lend(0, 2);
        Check.same("of a lent one", x.ifTested(0, 16), 103);
        Check.refuses("pressure 3", x, ARGUMENT, () -> x.ifTested(0, 3));
        Check.refuses("pressure 25", x, ARGUMENT, () -> x.ifTested(0, 25));
        Check.refuses("hose 1, pressure 25", x, INDEX, () -> x.ifTested(1, 25));
        Check.refuses("hose -1", x, INDEX, () -> x.ifTested(-1, 4));
        for (int far : FAR) {
            Check.refuses("hose far", x, INDEX, () -> x.ifTested(far, 4));
            Check.refuses("pressure far", x, ARGUMENT, () -> x.ifTested(0, far));
        }
        x.pass(2);
        x.renew(0);
        Check.same("of a gone one", x.ifTested(0, 4), NONE);
        Check.refuses("of a gone one, pressure 3", x, ARGUMENT, () -> x.ifTested(0, 3));
    }

    private static void promise20Safe() {
        HoseTests x = new HoseTests();
        x.buy(LINEN, 5, 0);
        x.buy(RUBBER, 5, 0);
        x.buy(LINED, 5, 0);
        Check.same("safe of linen", x.safe(0), 16);
        Check.same("safe of rubber", x.safe(1), 20);
        Check.same("safe of lined, which wears on the way", x.safe(2), 23);
        wearBy(x, 0, 9);
        Check.same("safe of worn linen", x.safe(0), 15);
        Check.same("saved states", x.count(10), 6);
        x.test(1, 12);
        x.lend(1, 9);
        Check.same("safe of a lent one", x.safe(1), 20);
        Check.refuses("hose -1", x, INDEX, () -> x.safe(-1));
        Check.refuses("hose 3", x, INDEX, () -> x.safe(3));
        for (int far : FAR) {
            Check.refuses("hose far", x, INDEX, () -> x.safe(far));
        }
        x.test(2, 24);
        Check.same("safe of a gone one", x.safe(2), NONE);
        HoseTests old = new HoseTests();
        old.buy(LINEN, 5, 0);
        passAll(old, 1200);
        Check.same("safe by a strength of 4", old.safe(0), 4);
        old.pass(100);
        Check.same("safe by a strength of 3", old.safe(0), NONE);
        Check.same("not gone", old.hose(0, 7), STORE);
    }

    private static void promise21NextLapse() {
        HoseTests x = new HoseTests();
        x.buy(LINEN, 5, 0);
        Check.same("nothing is ready", x.nextLapse(), NONE);
        x.test(0, 12);
        Check.same("linen", x.nextLapse(), 101);
        x.buy(LINED, 5, 0);
        x.test(1, 12);
        Check.same("the first of two", x.nextLapse(), 101);
        x.lend(0, 99);
        Check.same("a lent one is not ready now", x.nextLapse(), 201);
        x.pass(99);
        Check.same("back in the store", x.nextLapse(), 2);
        x.pass(1);
        Check.same("on the last day", x.nextLapse(), 1);
        x.pass(1);
        Check.same("the other one", x.nextLapse(), 100);
        HoseTests old = new HoseTests();
        old.set(0, 4);
        old.buy(LINEN, 5, 0);
        passAll(old, 850);
        old.test(0, 4);
        Check.same("by its life", old.nextLapse(), 51);
        old.pass(50);
        Check.same("on the last day of its life", old.nextLapse(), 1);
        old.pass(1);
        Check.same("behind its life", old.nextLapse(), NONE);
    }

    private static void promise22Helps() {
        HoseTests x = rich();
        ready(x, LINEN, 20, 0, 0);
        ready(x, LINED, 40, 0, STORE);
        ready(x, RUBBER, 45, 0, STORE);
        ready(x, LINEN, 50, 0, STORE);
        ready(x, LINEN, 50, 0, STORE);
        x.buy(LINEN, 40, 0);
        ready(x, LINEN, 39, 0, STORE);
        ready(x, LINEN, 40, 0, 1);
        Check.same("the cheapest, of two the lowest", x.helps(0), 3);
        x.want(0, 59);
        Check.same("a cheaper one is long enough", x.helps(0), 6);
        x.want(0, 60);
        x.lend(3, 9);
        Check.same("the other one", x.helps(0), 4);
        x.put(4, 2);
        Check.same("rubber for 135", x.helps(0), 2);
        x.put(2, 2);
        Check.same("lined for 170", x.helps(0), 1);
        x.put(1, 2);
        Check.same("none", x.helps(0), NONE);
        x.want(0, 20);
        Check.same("it is whole", x.helps(0), NONE);
        x.want(0, 21);
        Check.same("not whole any more", x.helps(0), 6);
        Check.refuses("truck -1", x, INDEX, () -> x.helps(-1));
        Check.refuses("truck 3", x, INDEX, () -> x.helps(3));
        for (int far : FAR) {
            Check.refuses("truck far", x, INDEX, () -> x.helps(far));
        }
    }

    private static void promise22HelpsChangesTheLine() {
        HoseTests x = rich();
        x.set(1, 0);
        ready(x, LINEN, 45, 1, STORE);
        ready(x, LINEN, 20, 0, 0);
        ready(x, LINEN, 20, 0, 0);
        ready(x, LINED, 20, 0, STORE);
        ready(x, LINEN, 20, 2, STORE);
        Check.same("the cheaper ones do not fit", x.helps(0), 3);
        x.put(3, 1);
        Check.same("none fits", x.helps(0), NONE);
        x.set(1, 1);
        Check.same("with an adapter", x.helps(0), 4);
        x.want(0, 61);
        Check.same("the long one", x.helps(0), 0);
        HoseTests empty = new HoseTests();
        ready(empty, LINEN, 20, 2, STORE);
        empty.want(1, 20);
        Check.same("alone on the truck", empty.helps(1), 0);
        empty.want(1, 21);
        Check.same("too short", empty.helps(1), NONE);
    }

    private static void promise23ReadyShare() {
        HoseTests x = new HoseTests();
        x.buy(LINEN, 5, 0);
        Check.sameShare("none of 1", x.readyShare(), 0.0);
        x.test(0, 12);
        Check.sameShare("1 of 1", x.readyShare(), 1.0);
        x.buy(LINEN, 5, 0);
        x.buy(LINEN, 5, 0);
        Check.sameShare("1 of 3", x.readyShare(), 1.0 / 3.0);
        x.test(1, 12);
        Check.sameShare("2 of 3", x.readyShare(), 2.0 / 3.0);
        x.lend(0, 9);
        Check.sameShare("a lent one is not gone", x.readyShare(), 1.0 / 3.0);
        x.test(2, 24);
        Check.sameShare("a gone one does not count", x.readyShare(), 0.5);
        HoseTests gone = new HoseTests();
        gone.buy(LINEN, 5, 0);
        gone.test(0, 24);
        Check.sameShare("all are gone", gone.readyShare(), 1.0);
    }

    /** A digest by single looks takes up to 220 calls of an object, so most moments have an object of their own. */
    private static void promise24Digest() {
        HoseTests x = new HoseTests();
        digestIsDue(x, "");
        type(x, "n20a,r15b,x");
        digestIsDue(x, "n20a,r15b,x");
        for (int hoses = 1; hoses <= 14; hoses++) {
            digestIsDue(fleet(hoses), "");
        }
        int[] days = {0, 95, 101, 500};
        for (int d : days) {
            digestIsDue(fleetBehind(d), "l5~");
        }
        HoseTests undone = fleetBehind(95);
        undone.pass(6);
        undone.undo();
        digestIsDue(undone, "l5~");
        HoseTests old = fleetBehind(500);
        Check.same("strength", old.hose(1, 5), 11);
        Check.same("held of 12 by 11", old.ifTested(1, 12), 102);
        Check.same("digest changes nothing", old.digest(), old.digest());
    }

    private static HoseTests fleet(int hoses) {
        HoseTests x = new HoseTests();
        x.set(1, 3);
        for (int h = 0; h < hoses; h++) {
            x.buy(LINEN, 5 + h % 2, h % 3);
            if (h % 4 != 1) {
                x.test(h, 12);
                x.put(h, h % 4);
            }
        }
        return x;
    }

    private static HoseTests fleetBehind(int days) {
        HoseTests x = fleet(14);
        x.lend(0, 20);
        x.test(4, 24);
        x.want(0, 9);
        type(x, "l5~");
        passAll(x, days);
        return x;
    }
}
