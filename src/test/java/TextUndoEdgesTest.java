/** The boundary cases that "Input text" and "Undo" name: each has a test of its own, which quotes its sentence. */
public final class TextUndoEdgesTest extends Scene {

    public static void main(String[] args) {
        inputText();
        undo();
        Check.end("TextUndoEdgesTest");
    }

    // ---- input text

    private static void inputText() {
        atMost60Characters();
        oneOrMoreParts();
        kindsInTheText();
        firstDigits();
        secondDigits();
        noLeadingZero();
        couplingsInTheText();
        commasInTheText();
        behindAnErrorAllIsAsItWas();
        ofAnyLength();
    }

    private static void atMost60Characters() {
        Document.sentence("Input text", "The buffer has at most 60 characters.");
        HoseTests x = new HoseTests();
        for (int n = 1; n <= 60; n++) {
            Check.same("length", x.append('n'), n);
        }
        Check.refuses("a 61st", x, STATE, () -> x.append('n'));
        Check.same("length", x.clearBuffer(), 60);
        Check.same("room again", x.append('n'), 1);
    }

    private static void oneOrMoreParts() {
        Document.sentence("Input text", "Hoses as a text are one or more parts with \",\" between them");
        HoseTests none = new HoseTests();
        Check.refuses("no part", none, ARGUMENT, none::buyAll);
        Check.same("one part", withText("n5a").buyAll(), 1);
        Check.same("two parts", withText("n5a,n5a").buyAll(), 2);
        String[] wrong = {",", "n5a,", ",n5a", "n5a,,n5a", "n5an5a"};
        for (String text : wrong) {
            HoseTests x = withText(text);
            Check.refuses(text, x, ARGUMENT, x::buyAll);
        }
    }

    /** All 94 characters are tried behind a text that is right so far. */
    private static void goesOnWith(String text, String due) {
        for (int code = 33; code <= 126; code++) {
            HoseTests x = withText(text);
            x.append(code);
            int length = text.length();
            int error = due.indexOf(code) >= 0 ? length + 1 : length;
            Check.same("firstError of " + text + (char) code, x.firstError(), error);
        }
    }

    private static void kindsInTheText() {
        Document.sentence("Input text", "each a kind, \"n\" (linen), \"r\" (rubber) or \"l\" (lined)");
        goesOnWith("", "nrl");
        goesOnWith("n5a,", "nrl");
        String[] texts = {"n5a", "r5a", "l5a"};
        for (int kind = 0; kind <= 2; kind++) {
            HoseTests x = withText(texts[kind]);
            x.buyAll();
            Check.same("kind of " + texts[kind], x.hose(0, 0), kind);
        }
    }

    private static void firstDigits() {
        Document.sentence("Input text", "a length, 5 to 50");
        goesOnWith("n", "123456789");
        goesOnWith("r", "123456789");
        goesOnWith("l", "123456789");
        goesOnWith("n5a,l", "123456789");
    }

    private static void secondDigits() {
        Document.sentence("Input text", "a length, 5 to 50");
        for (char first = '1'; first <= '4'; first++) {
            goesOnWith("n" + first, "0123456789");
            goesOnWith("n" + first + "0", "abc");
            goesOnWith("n" + first + "9", "abc");
        }
        goesOnWith("n5", "0abc");
        goesOnWith("n50", "abc");
        for (char only = '6'; only <= '9'; only++) {
            goesOnWith("n" + only, "abc");
        }
        int[] lengths = {5, 9, 10, 49, 50};
        for (int length : lengths) {
            HoseTests x = withText("n" + length + "a");
            x.buyAll();
            Check.same("length", x.hose(0, 1), length);
        }
    }

    private static void noLeadingZero() {
        Document.sentence("Input text", "without a leading zero");
        Check.same("firstError", withText("n0").firstError(), 1);
        Check.same("firstError", withText("n05a").firstError(), 1);
        Check.same("firstError", withText("n5a,n010b").firstError(), 5);
        Check.same("a zero behind", withText("n10a").firstError(), 4);
    }

    private static void couplingsInTheText() {
        Document.sentence("Input text", "a coupling, \"a\", \"b\" or \"c\" (0 to 2)");
        for (int coupling = 0; coupling <= 2; coupling++) {
            HoseTests x = withText("n5" + "abc".charAt(coupling));
            x.buyAll();
            Check.same("coupling", x.hose(0, 2), coupling);
        }
        Check.same("the one before a", withText("n5`").firstError(), 2);
        Check.same("the one behind c", withText("n5d").firstError(), 2);
    }

    private static void commasInTheText() {
        Document.sentence("Input text", "parts with \",\" between them");
        goesOnWith("n5a", ",");
        goesOnWith("n50b", ",");
        goesOnWith("n5a,r10c", ",");
    }

    private static void behindAnErrorAllIsAsItWas() {
        Document.sentence("Input text", "The buffer is read from left to right");
        Check.same("the first of several", withText("n5x,n4b,x").firstError(), 2);
        Check.same("at the beginning", withText("x5a,n4b").firstError(), 0);
        Check.same("right behind a wrong one", withText("n4a,n5a").firstError(), 2);
    }

    private static void ofAnyLength() {
        Document.sentence("Input text",
                "a character is a syntax error if no hoses as a text, of any length, begin with the characters before "
                        + "it and this character");
        String fiftySix = "n5a,r6b,l7c,n5a,r6b,l7c,n5a,r6b,l7c,n5a,r6b,l7c,n5a,r6b,";
        Check.same("60 that only a longer text begins with", withText(fiftySix + "n50a").firstError(), 60);
        Check.same("60 that only a longer text begins with", withText(fiftySix + "n5a,").firstError(), 60);
        goesOnWith(fiftySix + "n5a", ",");
        goesOnWith(fiftySix + "n50", "abc");
        HoseTests full = withText(fiftySix + "n5a,");
        Check.refuses("but it is not complete", full, ARGUMENT, full::buyAll);
    }

    // ---- undo

    private static final String SAVES = "Each method that is marked \"undoable\" and does not throw an exception saves "
            + "the state from before it";

    private static void undo() {
        theNineMethodsSave();
        theOthersDoNotSave();
        whatThrowsDoesNotSave();
        alsoIfItChangesNothing();
        allAlsoWhatIsCounted();
        allOfEachMethod();
        butTheBuffer();
        butTheSavedStates();
        atMost6States();
        theOldestIsDroppedFirst();
        theRoomForStatesStartsAgain();
    }

    private static void theNineMethodsSave() {
        Document.sentence("Undo", SAVES);
        HoseTests x = new HoseTests();
        savesOne(x, () -> x.buy(LINEN, 5, 0));
        savesOne(x, () -> x.test(0, 12));
        savesOne(x, () -> x.put(0, 0));
        savesOne(x, () -> x.lend(0, 1));
        savesOne(x, () -> x.pass(1));
        savesOne(x, () -> x.renew(0));
        x.undo();
        savesOne(x, () -> x.want(0, 1));
        x.undo();
        savesOne(x, () -> x.set(0, 4));
        x.undo();
        type(x, "n5a");
        savesOne(x, x::buyAll);
    }

    private static void savesOne(HoseTests x, Check.Call call) {
        int before = x.count(10);
        call.answer();
        Check.same("saved states", x.count(10), before + 1);
    }

    private static void theOthersDoNotSave() {
        Document.sentence("Undo", SAVES);
        HoseTests x = new HoseTests();
        ready(x, LINEN, 5, 0, 0);
        x.append('n');
        x.firstError();
        x.clearBuffer();
        x.hose(0, 5);
        x.truck(0, 1);
        x.count(10);
        x.setting(0);
        x.ifTested(0, 24);
        x.safe(0);
        x.nextLapse();
        x.helps(0);
        x.readyShare();
        x.digest();
        Check.same("saved states", x.count(10), 3);
        Check.same("undo", x.undo(), 2);
        Check.same("what is undone is the put", x.hose(0, 7), STORE);
    }

    private static void whatThrowsDoesNotSave() {
        Document.sentence("Undo", "and does not throw an exception");
        HoseTests x = new HoseTests();
        x.buy(LINEN, 5, 0);
        for (int i = 0; i < 6; i++) {
            x.want(0, 1);
        }
        for (int left = 5; left >= 0; left--) {
            Check.same("undo", x.undo(), left);
        }
        Check.refuses("buy", x, ARGUMENT, () -> x.buy(3, 5, 0));
        Check.refuses("renew", x, INDEX, () -> x.renew(1));
        Check.refuses("put", x, ARGUMENT, () -> x.put(0, 4));
        Check.refuses("lend", x, INDEX, () -> x.lend(1, 1));
        Check.refuses("test", x, ARGUMENT, () -> x.test(0, 25));
        Check.refuses("want", x, ARGUMENT, () -> x.want(0, 201));
        Check.refuses("set", x, ARGUMENT, () -> x.set(1, 6));
        Check.refuses("pass", x, ARGUMENT, () -> x.pass(101));
        Check.refuses("buyAll", x, ARGUMENT, x::buyAll);
        Check.same("saved states", x.count(10), 0);
    }

    private static void alsoIfItChangesNothing() {
        Document.sentence("Undo", "(also if it changes nothing)");
        HoseTests x = new HoseTests();
        savesOne(x, () -> x.want(2, 60));
        savesOne(x, () -> x.set(2, 50));
        x.buy(LINEN, 50, 0);
        savesOne(x, () -> x.put(0, STORE));
        type(x, "l50a");
        savesOne(x, x::buyAll);
        Check.same("hoses", x.count(2), 1);
    }

    private static void allAlsoWhatIsCounted() {
        Document.sentence("Undo", "all, also what is counted so far");
        HoseTests x = new HoseTests();
        x.buy(LINEN, 50, 0);
        x.test(0, 24);
        countsAre(x, 0, 100, 1, 1, 0, 0, 0, 1, 1, 100, 2);
        x.undo();
        countsAre(x, 0, 100, 1, 0, 0, 0, 0, 0, 0, 100, 1);
        x.undo();
        countsAre(x, 0, 200, 0, 0, 0, 0, 0, 0, 0, 0, 0);
    }

    private static void allOfEachMethod() {
        Document.sentence("Undo", "saves the state from before it (also if it changes nothing): all");
        undoneIs("buy", x -> x.buy(LINED, 6, 2));
        undoneIs("renew", x -> x.renew(0));
        undoneIs("put", x -> x.put(0, 1));
        undoneIs("lend", x -> x.lend(0, 9));
        undoneIs("test", x -> x.test(0, 12));
        undoneIs("test that bursts it", x -> x.test(0, 24));
        undoneIs("want", x -> x.want(2, 1));
        undoneIs("set", x -> x.set(0, 4));
        undoneIs("pass", x -> x.pass(100));
        undoneIs("buyAll", x -> {
            type(x, "r6b,l7c");
            return x.buyAll();
        });
    }

    private interface Use {
        long on(HoseTests x);
    }

    private static void undoneIs(String what, Use use) {
        HoseTests x = new HoseTests();
        ready(x, LINEN, 5, 0, 0);
        x.pass(1);
        long before = x.digest();
        use.on(x);
        Check.isTrue(what + " changes the digest", x.digest() != before);
        Check.same("undo of " + what, x.undo(), 4);
        Check.same("digest behind undo of " + what, x.digest(), before);
        use.on(x);
        x.pass(1);
        Check.same("undo of a day", x.undo(), 5);
        Check.same("undo of " + what, x.undo(), 4);
        Check.same("digest behind two undos", x.digest(), before);
    }

    private static void butTheBuffer() {
        Document.sentence("Undo", "but the buffer and the saved states");
        HoseTests x = withText("n5a");
        x.buyAll();
        x.append('x');
        x.append('y');
        x.undo();
        Check.same("no hose", x.count(2), 0);
        Check.same("the buffer of now", x.clearBuffer(), 2);
    }

    private static void butTheSavedStates() {
        Document.sentence("Undo", "but the buffer and the saved states");
        HoseTests x = new HoseTests();
        x.want(0, 1);
        x.want(0, 2);
        x.undo();
        Check.same("saved states", x.count(10), 1);
        x.want(0, 3);
        Check.same("saved states", x.count(10), 2);
        x.undo();
        Check.same("undone once", x.truck(0, 0), 1);
        x.undo();
        Check.same("undone twice", x.truck(0, 0), 60);
    }

    private static HoseTests wanted(int calls) {
        HoseTests x = new HoseTests();
        for (int length = 1; length <= calls; length++) {
            x.want(0, length);
        }
        return x;
    }

    private static void atMost6States() {
        Document.sentence("Undo", "At most 6 states are saved");
        Check.same("saved states by 5", wanted(5).count(10), 5);
        Check.same("saved states by 6", wanted(6).count(10), 6);
        Check.same("saved states by 7", wanted(7).count(10), 6);
        Check.same("saved states by 100", wanted(100).count(10), 6);
    }

    private static void theOldestIsDroppedFirst() {
        Document.sentence("Undo", "the oldest one is dropped first");
        undoneAre(wanted(6), 5, 4, 3, 2, 1, 60);
        undoneAre(wanted(7), 6, 5, 4, 3, 2, 1);
        undoneAre(wanted(8), 7, 6, 5, 4, 3, 2);
        undoneAre(wanted(100), 99, 98, 97, 96, 95, 94);
    }

    private static void undoneAre(HoseTests x, int... lengths) {
        for (int i = 0; i < lengths.length; i++) {
            Check.same("undo", x.undo(), lengths.length - 1 - i);
            Check.same("length", x.truck(0, 0), lengths[i]);
        }
        Check.refuses("undo of none", x, STATE, x::undo);
    }

    private static void theRoomForStatesStartsAgain() {
        Document.sentence("Undo", "the oldest one is dropped first");
        HoseTests x = wanted(20);
        x.undo();
        x.undo();
        x.undo();
        x.want(0, 101);
        x.want(0, 102);
        undoneAre(x, 101, 17, 16, 15, 14);
        for (int length = 111; length <= 117; length++) {
            x.want(0, length);
        }
        undoneAre(x, 116, 115, 114, 113, 112, 111);
    }
}
