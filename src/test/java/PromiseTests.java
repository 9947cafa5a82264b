/** For each promise of the document: ordinary inputs, the edges that it names, wrong inputs. */
public final class PromiseTests {
    private static final int NONE = PageOwners.NONE;
    private static final int[] NO_NODE = {-1, 4, 5, 6, 32, Integer.MIN_VALUE, Integer.MAX_VALUE};
    private static final int[] NO_PAGE = {-1, 8, 9, 32, Integer.MIN_VALUE, Integer.MAX_VALUE};
    private static final int[] NO_WORD = {-1, 4, 5, 32, Integer.MIN_VALUE, Integer.MAX_VALUE};

    public static void main(String[] args) {
        promise(1); newObject();
        promise(2); beginTakesTwoToSix(); beginStartsAnew();
        promise(3); readAtOnce(); readThatWaits(); readRefused(); readCalledBackMeanwhile();
        promise(4); writeAtOnce(); writeThatAsks(); writeByOwnerCallsBack(); writeRefused();
        promise(5); deliverOrder(); deliverSendsOn(); deliverRefused(); queueIsGoneOver();
                    otherPagesAreServed(); readerThatWritesGetsNoCall();
        promise(6); waitsOfAll();
        promise(7); atOfAll();
        promise(8); resultOfThingsDone();
        promise(9); accessOfAll();
        promise(10); ownerOfAll();
        promise(11); guessOfAll();
        promise(12); copiesOfAll();
        promise(13); wordOfAll();
        promise(14); queueOfAll();
        promise(15); chainOfAll();
        promise(16); flyingOfAll();
        promise(17); letterOfAll();
        promise(18); letterWordOfAll();
        promise(19); countOfAll();
        Due.end("promises");
    }

    private static void promise(int number) {
        Due.by("promise " + number, "");
    }

    // 1

    private static void newObject() {
        Pages x = new Real();
        Pages y = new Real();
        Due.is("begin(4)", y.begin(4) ? 1 : 0, 1);
        Due.same("a new object", x, y);
        Due.is("count(0)", x.count(0), 4);
        for (int page = 0; page < 8; page++) {
            Due.is("owner(" + page + ")", x.owner(page), page % 4);
        }
        Due.is("NONE", PageOwners.NONE, -1);
    }

    // 2

    private static void beginTakesTwoToSix() {
        for (int n = 2; n <= 6; n++) {
            Pages x = new Real();
            Due.is("begin(" + n + ")", x.begin(n) ? 1 : 0, 1);
            Due.is("count(0)", x.count(0), n);
            Due.is("waits(last)", x.waits(n - 1), 0);
            Due.is("waits(one more)", x.waits(n), NONE);
            for (int page = 0; page < 8; page++) {
                Due.is("owner", x.owner(page), page % n);
                for (int node = 0; node < n; node++) {
                    Due.is("access", x.access(node, page), node == page % n ? 2 : 0);
                    Due.is("guess", x.guess(node, page), page % n);
                    Due.is("copies", x.copies(node, page), 0);
                }
            }
        }
        for (int bad : new int[] {-1, 0, 1, 7, 8, Integer.MIN_VALUE, Integer.MAX_VALUE}) {
            Pages x = Scenes.busy();
            String before = Snapshot.of(x);
            Due.is("begin(" + bad + ")", x.begin(bad) ? 1 : 0, 0);
            Due.same("after begin(" + bad + ")", Snapshot.of(x), before);
        }
    }

    private static void beginStartsAnew() {
        for (int n = 2; n <= 6; n++) {
            Pages x = Scenes.busy();
            Pages fresh = new Real();
            x.begin(n);
            fresh.begin(n);
            Due.same("begin(" + n + ") behind a run", x, fresh);
            // What begin forgot to clear may show only when it is used again.
            x.read(1, 0, 2);
            fresh.read(1, 0, 2);
            Scenes.calm(x);
            Scenes.calm(fresh);
            Due.same("a read behind begin", x, fresh);
        }
        Pages x = Scenes.readByAll();
        x.begin(4);
        Due.same("begin(4) behind copies", x, new Real());
    }

    // 3

    private static void readAtOnce() {
        Pages x = new Real();
        Due.is("read by the owner", x.read(2, 6, 3), 1);
        Due.is("flying()", x.flying(), 0);
        Pages y = Scenes.readByAll();
        Due.is("read with a copy", y.read(3, 0, 2), 1);
        Due.is("result(3)", y.result(3), 55);
        Due.is("read by an owner with access 1", y.read(0, 0, 2), 1);
        Due.is("flying()", y.flying(), 0);
    }

    private static void readThatWaits() {
        Pages x = new Real();
        x.write(2, 2, 3, -9);
        Due.is("read(0, 2, 3)", x.read(0, 2, 3), 0);
        Due.is("waits(0)", x.waits(0), 1);
        Due.is("ask goes to the guess", x.letter(0, 2), 2);
        Due.is("deliver(0)", x.deliver(0), 1);
        Due.is("owner's access", x.access(2, 2), 1);
        Due.is("owner's copies", x.copies(2, 2), 1);
        Due.is("owner", x.owner(2), 2);
        Due.is("deliver(0)", x.deliver(0), 3);
        Due.is("waits(0)", x.waits(0), 0);
        Due.is("result(0)", x.result(0), -9);
        Due.is("access(0, 2)", x.access(0, 2), 1);
        Due.is("guess(0, 2)", x.guess(0, 2), 2);
    }

    private static void readRefused() {
        Pages x = Scenes.busy();
        String before = Snapshot.of(x);
        for (int bad : NO_NODE) {
            Due.is("read(" + bad + ", 0, 0)", x.read(bad, 0, 0), NONE);
        }
        for (int bad : NO_PAGE) {
            Due.is("read(2, " + bad + ", 0)", x.read(2, bad, 0), NONE);
        }
        for (int bad : NO_WORD) {
            Due.is("read(2, 0, " + bad + ")", x.read(2, 0, bad), NONE);
        }
        Due.is("read of one that waits to read", x.read(0, 0, 0), NONE);
        Due.is("read of one that waits for answers", x.read(1, 1, 0), NONE);
        Due.is("read of one that waits to write", x.read(3, 3, 0), NONE);
        Due.same("reads refused", Snapshot.of(x), before);
    }

    /** The call comes before the page: the read is done all the same, but no access stays. */
    private static void readCalledBackMeanwhile() {
        Pages x = new Real();
        x.write(0, 0, 0, 5);
        x.read(1, 0, 0);
        x.deliver(0);
        x.write(0, 0, 0, 6);
        Due.is("letter 1", x.letter(1, 0), 5);
        Due.is("deliver the call", x.deliver(1), 5);
        Due.is("deliver the page", x.deliver(0), 3);
        Due.is("result(1)", x.result(1), 5);
        Due.is("access(1, 0)", x.access(1, 0), 0);
        Due.is("guess(1, 0)", x.guess(1, 0), 0);
        Due.is("deliver the answer", x.deliver(0), 6);
        Due.is("result(0)", x.result(0), 6);
        // That call is no matter of the next read.
        Due.is("read again", x.read(1, 0, 0), 0);
        Scenes.calm(x);
        Due.is("result(1)", x.result(1), 6);
        Due.is("access(1, 0)", x.access(1, 0), 1);
        callForAnotherPage();
    }

    private static void callForAnotherPage() {
        Pages x = Scenes.readByAll();
        x.read(2, 1, 0);
        x.write(0, 0, 0, 1);
        for (int k = 0; k < 3; k++) {
            Due.is("the calls come before the page", x.deliver(1), 5);
        }
        Scenes.calm(x);
        Due.is("a call for page 0, access to page 1", x.access(2, 1), 1);
        Due.is("a call for page 0, access to page 0", x.access(2, 0), 0);
    }

    // 4

    private static void writeAtOnce() {
        Pages x = new Real();
        Due.is("write by the owner", x.write(3, 7, 0, Long.MIN_VALUE), 1);
        Due.is("word", x.word(3, 7, 0), Long.MIN_VALUE);
        Due.is("result(3)", x.result(3), Long.MIN_VALUE);
        Due.is("flying()", x.flying(), 0);
    }

    private static void writeThatAsks() {
        Pages x = new Real();
        x.write(0, 0, 3, 8);
        Due.is("write(1, 0, 0, 10)", x.write(1, 0, 0, 10), 0);
        Due.is("waits(1)", x.waits(1), 2);
        Due.is("deliver(0)", x.deliver(0), 2);
        Due.is("owner(0)", x.owner(0), NONE);
        Due.is("access(0, 0)", x.access(0, 0), 0);
        Due.is("guess(0, 0)", x.guess(0, 0), 1);
        Due.is("deliver(0)", x.deliver(0), 4);
        Due.is("owner(0)", x.owner(0), 1);
        Due.is("guess(1, 0)", x.guess(1, 0), 1);
        Due.is("access(1, 0)", x.access(1, 0), 2);
        Due.is("waits(1)", x.waits(1), 0);
        Due.is("word(1, 0, 0)", x.word(1, 0, 0), 10);
        Due.is("word(1, 0, 3)", x.word(1, 0, 3), 8);
        Due.is("word(0, 0, 0)", x.word(0, 0, 0), 0);
        Due.is("flying()", x.flying(), 0);
        Pages y = Scenes.readByAll();
        Due.is("a copy's write", y.write(2, 0, 0, 1), 0);
        Due.is("a copy's access while it waits", y.access(2, 0), 1);
        Due.is("a copy's letter", y.letter(0, 0), 2);
    }

    private static void writeByOwnerCallsBack() {
        Pages x = Scenes.readByAll();
        Due.is("write(0, 0, 1, 7)", x.write(0, 0, 1, 7), 0);
        Due.is("waits(0)", x.waits(0), 3);
        Due.is("copies(0, 0)", x.copies(0, 0), 0);
        Due.is("access(0, 0)", x.access(0, 0), 1);
        Due.is("word before it is done", x.word(0, 0, 1), 0);
        for (int k = 0; k < 3; k++) {
            Due.is("kind", x.letter(k, 0), 5);
            Due.is("from", x.letter(k, 1), 0);
            Due.is("calls go by numbers", x.letter(k, 2), k + 1);
        }
        Due.is("deliver(1)", x.deliver(1), 5);
        Due.is("deliver(2)", x.deliver(2), 6);
        Due.is("answers", x.at(0, 3), 2);
        Due.is("waits(0)", x.waits(0), 3);
        Scenes.calm(x);
        Due.is("waits(0)", x.waits(0), 0);
        Due.is("access(0, 0)", x.access(0, 0), 2);
        Due.is("word(0, 0, 1)", x.word(0, 0, 1), 7);
        for (int node = 1; node <= 3; node++) {
            Due.is("access of a copy", x.access(node, 0), 0);
        }
    }

    private static void writeRefused() {
        Pages x = Scenes.busy();
        String before = Snapshot.of(x);
        for (int bad : NO_NODE) {
            Due.is("write(" + bad + ", 0, 0, 1)", x.write(bad, 0, 0, 1), NONE);
        }
        for (int bad : NO_PAGE) {
            Due.is("write(2, " + bad + ", 0, 1)", x.write(2, bad, 0, 1), NONE);
        }
        for (int bad : NO_WORD) {
            Due.is("write(2, 2, " + bad + ", 1)", x.write(2, 2, bad, 1), NONE);
        }
        Due.is("write of one that waits to read", x.write(0, 4, 0, 1), NONE);
        Due.is("write of one that waits for answers", x.write(1, 1, 0, 1), NONE);
        Due.is("write of one that waits to write", x.write(3, 3, 0, 1), NONE);
        Due.same("writes refused", Snapshot.of(x), before);
    }

    // 5

    private static void deliverOrder() {
        Pages x = new Real();
        x.read(1, 0, 0);
        x.read(2, 1, 0);
        x.read(3, 2, 0);
        Due.is("deliver(1)", x.deliver(1), 1);
        Due.is("the oldest stays first", x.letter(0, 3), 0);
        Due.is("the third is second", x.letter(1, 3), 2);
        Due.is("the new one is last", x.letter(2, 0), 3);
        Due.is("deliver(2)", x.deliver(2), 3);
        Due.is("flying()", x.flying(), 2);
    }

    private static void deliverSendsOn() {
        Pages x = Scenes.ownedByOne();
        x.read(2, 0, 0);
        Due.is("deliver(0)", x.deliver(0), 1);
        Due.is("kind", x.letter(0, 0), 1);
        Due.is("from the one that sends on", x.letter(0, 1), 0);
        Due.is("to its guess", x.letter(0, 2), 1);
        Due.is("who asks first", x.letter(0, 4), 2);
        Due.is("guess stays", x.guess(0, 0), 1);
        x.write(3, 0, 0, 30);
        Due.is("deliver(1)", x.deliver(1), 2);
        Due.is("to the guess that was", x.letter(1, 2), 1);
        Due.is("who asks first", x.letter(1, 4), 3);
        Due.is("guess is the asking node", x.guess(0, 0), 3);
        Scenes.calm(x);
        Due.is("result(2)", x.result(2), 10);
        Due.is("owner(0)", x.owner(0), 3);
        Due.is("word(3, 0, 0)", x.word(3, 0, 0), 30);
    }

    private static void deliverRefused() {
        Pages x = Scenes.busy();
        String before = Snapshot.of(x);
        for (int bad : new int[] {-1, 3, 4, 31, 32, Integer.MIN_VALUE, Integer.MAX_VALUE}) {
            Due.is("deliver(" + bad + ")", x.deliver(bad), NONE);
        }
        Due.same("deliveries refused", Snapshot.of(x), before);
        Due.is("deliver(0) of none", new Real().deliver(0), NONE);
    }

    /** In the queue stand a read, a write, a read: the last is sent on to the new owner. */
    private static void queueIsGoneOver() {
        Pages x = new Real();
        x.begin(5);
        x.read(1, 0, 0);
        Scenes.calm(x);
        x.write(0, 0, 0, 3);
        x.read(2, 0, 0);
        x.write(3, 0, 1, 4);
        x.read(4, 0, 0);
        for (int k = 0; k < 3; k++) {
            x.deliver(1);
        }
        Due.is("queue(0, 0)", x.queue(0, 0), 3);
        Due.is("deliver the call", x.deliver(0), 5);
        Due.is("deliver the answer", x.deliver(0), 6);
        Due.is("queue(0, 0)", x.queue(0, 0), 0);
        Due.is("flying()", x.flying(), 3);
        Due.is("first a page to read", x.letter(0, 0) * 10 + x.letter(0, 2), 32);
        Due.is("it has what was written", x.letterWord(0, 0), 3);
        Due.is("then a page to write", x.letter(1, 0) * 10 + x.letter(1, 2), 43);
        Due.is("with the new copy", x.letter(1, 5), 4);
        Due.is("then an asking sent on", x.letter(2, 0) * 10 + x.letter(2, 2), 13);
        Due.is("for the one who asked", x.letter(2, 4), 4);
        Due.is("count(2)", x.count(2), 1);
        Scenes.calm(x);
        Due.is("result(4)", x.result(4), 3);
        Due.is("owner(0)", x.owner(0), 3);
        Due.is("copies(3, 0)", x.copies(3, 0), 16);
        twoWritesInAQueue();
    }

    private static void twoWritesInAQueue() {
        Pages x = new Real();
        x.write(1, 0, 0, 1);
        x.deliver(0);
        x.write(2, 0, 0, 2);
        x.deliver(1);
        x.write(3, 0, 0, 3);
        x.deliver(2);
        Due.is("sent on to the one before", x.letter(1, 2) * 10 + x.letter(2, 2), 12);
        x.deliver(2);
        x.deliver(1);
        Due.is("queue(2, 0)", x.queue(2, 0), 1);
        Due.is("queue(1, 0)", x.queue(1, 0), 1);
        Due.is("deliver(0)", x.deliver(0), 4);
        Due.is("a write done without calls gives the page on", x.letter(0, 0), 4);
        Due.is("owner(0)", x.owner(0), NONE);
        Scenes.calm(x);
        Due.is("owner(0)", x.owner(0), 3);
        Due.is("results", x.result(1) * 100 + x.result(2) * 10 + x.result(3), 123);
    }

    /** One that waits for a page serves its other pages, and sends on what it waits to read. */
    private static void otherPagesAreServed() {
        Pages x = Scenes.readByAll();
        x.write(0, 0, 0, 1);
        x.read(1, 4, 0);
        Due.is("deliver(3)", x.deliver(3), 1);
        Due.is("queue(0, 4)", x.queue(0, 4), 0);
        Due.is("page 4 is given", x.letter(3, 0), 3);
        Pages y = Scenes.ownedByOne();
        y.read(0, 0, 0);
        y.write(2, 0, 0, 2);
        Due.is("deliver(1)", y.deliver(1), 2);
        Due.is("one that waits to read has no queue", y.queue(0, 0), 0);
        Due.is("it sends on", y.letter(1, 2), 1);
        Due.is("its guess", y.guess(0, 0), 2);
    }

    private static void readerThatWritesGetsNoCall() {
        Pages x = Scenes.readByAll();
        x.write(2, 0, 0, 9);
        x.deliver(0);
        Due.is("copies go as they are", x.letter(0, 5), 14);
        Due.is("deliver(0)", x.deliver(0), 4);
        Due.is("calls to the others", x.flying(), 2);
        Due.is("first call", x.letter(0, 2), 1);
        Due.is("second call", x.letter(1, 2), 3);
        Due.is("at(2, 3)", x.at(2, 3), 2);
        Due.is("access while it waits for answers", x.access(2, 0), 1);
        Due.is("owner(0)", x.owner(0), 2);
        Scenes.calm(x);
        Due.is("access(2, 0)", x.access(2, 0), 2);
        Due.is("result(2)", x.result(2), 9);
        Due.is("word(2, 0, 2)", x.word(2, 0, 2), 55);
    }

    // 6

    private static void waitsOfAll() {
        Pages x = Scenes.busy();
        Due.is("waits(0)", x.waits(0), 1);
        Due.is("waits(1)", x.waits(1), 3);
        Due.is("waits(2)", x.waits(2), 0);
        Due.is("waits(3)", x.waits(3), 2);
        for (int bad : NO_NODE) {
            Due.is("waits(" + bad + ")", x.waits(bad), NONE);
        }
    }

    // 7

    private static void atOfAll() {
        Pages x = new Real();
        for (int what = 0; what <= 3; what++) {
            Due.is("at(0, " + what + ") before", x.at(0, what), NONE);
        }
        Due.is("at(0, 4) before", x.at(0, 4), 0);
        x.read(0, 9, 0);
        Due.is("at(0, 0) behind a call refused", x.at(0, 0), NONE);
        x.write(1, 5, 3, 1);
        Due.is("at(1, 0)", x.at(1, 0), 5);
        Due.is("at(1, 1)", x.at(1, 1), 3);
        Due.is("at(1, 2)", x.at(1, 2), 1);
        Due.is("at(1, 3)", x.at(1, 3), 0);
        Due.is("at(1, 4)", x.at(1, 4), 1);
        x.read(1, 2, 0);
        Due.is("at(1, 0)", x.at(1, 0), 2);
        Due.is("at(1, 1)", x.at(1, 1), 0);
        Due.is("at(1, 2)", x.at(1, 2), 0);
        Due.is("at(1, 4) while it waits", x.at(1, 4), 1);
        Scenes.calm(x);
        Due.is("at(1, 0) when done", x.at(1, 0), 2);
        Due.is("at(1, 4) when done", x.at(1, 4), 2);
        Pages y = Scenes.readByAll();
        y.write(0, 0, 0, 1);
        Due.is("at(0, 3)", y.at(0, 3), 3);
        Scenes.calm(y);
        Due.is("at(0, 3)", y.at(0, 3), 0);
        for (int bad : NO_NODE) {
            for (int what = 0; what <= 4; what++) {
                Due.is("at(" + bad + ", " + what + ")", x.at(bad, what), NONE);
            }
        }
        for (int bad : new int[] {-1, 5, 6, Integer.MIN_VALUE, Integer.MAX_VALUE}) {
            Due.is("at(1, " + bad + ")", x.at(1, bad), NONE);
        }
    }

    // 8

    private static void resultOfThingsDone() {
        Pages x = new Real();
        Due.is("result(0) before", x.result(0), 0);
        x.write(0, 0, 0, 41);
        Due.is("result(0)", x.result(0), 41);
        x.read(0, 0, 1);
        Due.is("result(0) of a word 0", x.result(0), 0);
        x.write(0, 0, 1, -42);
        x.write(0, 1, 0, 43);
        Due.is("result(0) while it waits", x.result(0), -42);
        Scenes.calm(x);
        Due.is("result(0)", x.result(0), 43);
        for (int bad : NO_NODE) {
            Due.is("result(" + bad + ")", x.result(bad), 0);
        }
    }

    // 9

    private static void accessOfAll() {
        Pages x = Scenes.readByAll();
        Due.is("access of an owner that gave copies", x.access(0, 0), 1);
        Due.is("access of a copy", x.access(3, 0), 1);
        Due.is("access of an owner", x.access(3, 7), 2);
        Due.is("access of none", x.access(0, 7), 0);
        for (int bad : NO_NODE) {
            Due.is("access(" + bad + ", 0)", x.access(bad, 0), NONE);
        }
        for (int bad : NO_PAGE) {
            Due.is("access(0, " + bad + ")", x.access(0, bad), NONE);
        }
    }

    // 10

    private static void ownerOfAll() {
        Pages x = new Real();
        x.write(3, 6, 0, 1);
        Due.is("owner(6)", x.owner(6), 2);
        x.deliver(0);
        Due.is("owner(6) on its way", x.owner(6), NONE);
        Due.is("owner(2)", x.owner(2), 2);
        x.deliver(0);
        Due.is("owner(6)", x.owner(6), 3);
        for (int bad : NO_PAGE) {
            Due.is("owner(" + bad + ")", x.owner(bad), NONE);
        }
    }

    // 11

    private static void guessOfAll() {
        Pages x = Scenes.ownedByOne();
        Due.is("guess of who gave it", x.guess(0, 0), 1);
        Due.is("guess of the owner", x.guess(1, 0), 1);
        Due.is("guess of others", x.guess(2, 0), 0);
        x.read(2, 0, 0);
        Scenes.calm(x);
        Due.is("guess of a reader", x.guess(2, 0), 1);
        x.write(3, 0, 0, 1);
        x.deliver(0);
        Due.is("guess of who sends on", x.guess(0, 0), 3);
        x.deliver(0);
        x.deliver(0);
        Due.is("guess before the call", x.guess(2, 0), 1);
        Due.is("deliver(0)", x.deliver(0), 5);
        Due.is("guess of one called", x.guess(2, 0), 3);
        for (int bad : NO_NODE) {
            Due.is("guess(" + bad + ", 0)", x.guess(bad, 0), NONE);
        }
        for (int bad : NO_PAGE) {
            Due.is("guess(0, " + bad + ")", x.guess(0, bad), NONE);
        }
    }

    // 12

    private static void copiesOfAll() {
        Pages x = Scenes.readByAll();
        Due.is("copies(0, 0)", x.copies(0, 0), 14);
        Due.is("copies(1, 0) of no owner", x.copies(1, 0), 0);
        x.write(1, 0, 0, 1);
        x.deliver(0);
        Due.is("copies(0, 0) given away", x.copies(0, 0), 0);
        x.deliver(0);
        Due.is("copies(1, 0) called back", x.copies(1, 0), 0);
        Pages six = new Real();
        six.begin(6);
        six.read(5, 0, 0);
        six.deliver(0);
        Due.is("copies as soon as it is given", six.copies(0, 0), 32);
        for (int bad : NO_NODE) {
            Due.is("copies(" + bad + ", 0)", x.copies(bad, 0), NONE);
        }
        for (int bad : NO_PAGE) {
            Due.is("copies(0, " + bad + ")", x.copies(0, bad), NONE);
        }
    }

    // 13

    private static void wordOfAll() {
        Pages x = Scenes.readByAll();
        Due.is("word of a copy", x.word(1, 0, 2), 55);
        x.write(0, 0, 2, 56);
        Scenes.calm(x);
        Due.is("word of the owner", x.word(0, 0, 2), 56);
        Due.is("word without access, as it had it last", x.word(1, 0, 2), 55);
        Due.is("word of another page", x.word(0, 1, 2), 0);
        x.write(0, 4, 0, 5);
        Due.is("words of pages are apart", x.word(0, 3, 3), 0);
        Due.is("word(0, 4, 0)", x.word(0, 4, 0), 5);
        for (int bad : NO_NODE) {
            Due.is("word(" + bad + ", 0, 2)", x.word(bad, 0, 2), 0);
        }
        for (int bad : NO_PAGE) {
            Due.is("word(0, " + bad + ", 2)", x.word(0, bad, 2), 0);
        }
        x.write(0, 0, 0, 90);
        x.write(0, 0, 3, 93);
        for (int bad : NO_WORD) {
            Due.is("word(0, 0, " + bad + ")", x.word(0, 0, bad), 0);
        }
        Due.is("word(0, 3, 4) is not word(0, 4, 0)", x.word(0, 3, 4), 0);
    }

    // 14

    private static void queueOfAll() {
        Pages x = new Real();
        x.begin(6);
        x.write(1, 0, 0, 1);
        x.deliver(0);
        for (int node = 2; node <= 5; node++) {
            x.read(node, 0, 0);
            x.deliver(node - 1);
            Due.is("queue while the asking flies", x.queue(1, 0), 0);
        }
        for (int k = 1; k <= 4; k++) {
            Due.is("deliver(1)", x.deliver(1), 1);
            Due.is("queue(1, 0)", x.queue(1, 0), k);
        }
        Due.is("queue(1, 1)", x.queue(1, 1), 0);
        Due.is("queue(0, 0)", x.queue(0, 0), 0);
        x.deliver(0);
        Due.is("queue(1, 0) when the write is done", x.queue(1, 0), 0);
        Due.is("copies(1, 0)", x.copies(1, 0), 60);
        for (int bad : new int[] {-1, 6, 7, Integer.MIN_VALUE, Integer.MAX_VALUE}) {
            Due.is("queue(" + bad + ", 0)", x.queue(bad, 0), NONE);
        }
        for (int bad : NO_PAGE) {
            Due.is("queue(0, " + bad + ")", x.queue(0, bad), NONE);
        }
    }

    // 15

    private static void chainOfAll() {
        Pages x = new Real();
        x.begin(6);
        Due.is("chain from the owner", x.chain(0, 0), 0);
        Due.is("chain from another", x.chain(5, 0), 1);
        // Who gave the page guesses the next owner, so that from 1 on guesses make one line.
        for (int node = 1; node <= 5; node++) {
            x.write(node, 0, 0, node);
            Due.is("chain from one that waits to write", x.chain(node, 0), 0);
            if (node == 1) {
                x.deliver(0);
                Due.is("chain to where it is on its way", x.chain(0, 0), 1);
                Due.is("chain by way of who gave it", x.chain(5, 0), 2);
            }
            Scenes.calm(x);
        }
        Due.is("chain(0, 0)", x.chain(0, 0), 1);
        Due.is("chain(4, 0)", x.chain(4, 0), 1);
        longChain();
        // One that waits to read, or waits to write another page, does not end a chain.
        x.read(1, 0, 0);
        Due.is("chain from one that waits to read", x.chain(1, 0), 4);
        x.write(2, 1, 0, 5);
        Due.is("chain from one that waits for another page", x.chain(2, 0), 3);
        for (int bad : new int[] {-1, 6, 7, Integer.MIN_VALUE, Integer.MAX_VALUE}) {
            Due.is("chain(" + bad + ", 0)", x.chain(bad, 0), NONE);
        }
        for (int bad : NO_PAGE) {
            Due.is("chain(0, " + bad + ")", x.chain(0, bad), NONE);
        }
    }

    /** Each writer learns by a read who owns the page, so that it leaves the guesses in a line. */
    private static void longChain() {
        Pages x = new Real();
        x.begin(6);
        for (int node = 1; node <= 5; node++) {
            x.read(node, 0, 0);
            Scenes.calm(x);
            x.write(node, 0, 0, node);
            x.deliver(0);
            x.deliver(0);
            Scenes.calm(x);
        }
        int steps = 0;
        for (int here = 0; here != x.owner(0) && steps < 100; here = x.guess(here, 0)) {
            steps++;
        }
        Due.is("chain(0, 0) as guesses lead", x.chain(0, 0), steps);
        Due.is("the owner at the end", x.chain(5, 0), 0);
        Due.is("the guesses in a line", steps, 5);
    }

    // 16

    private static void flyingOfAll() {
        Pages x = new Real();
        Due.is("flying()", x.flying(), 0);
        x.read(1, 0, 0);
        x.read(2, 0, 0);
        x.read(3, 0, 0);
        Due.is("flying()", x.flying(), 3);
        Scenes.calm(x);
        x.write(0, 0, 0, 1);
        Due.is("flying() of calls", x.flying(), 3);
        x.write(1, 0, 0, 1);
        x.deliver(3);
        Due.is("flying() without what is in a queue", x.flying(), 3);
        manyFlying();
    }

    /** Six owners call back at once: as many letters as there can be of calls. */
    private static void manyFlying() {
        Pages x = new Real();
        x.begin(6);
        for (int page = 0; page < 6; page++) {
            for (int node = 0; node < 6; node++) {
                x.read(node, page, 0);
            }
            Scenes.calm(x);
        }
        for (int node = 0; node < 6; node++) {
            Due.is("write", x.write(node, node, 0, 100 + node), 0);
        }
        Due.is("flying()", x.flying(), 30);
        for (int k = 0; k < 30; k++) {
            Due.is("to, by numbers", x.letter(k, 2), k % 5 < k / 5 ? k % 5 : k % 5 + 1);
            Due.is("page", x.letter(k, 3), k / 5);
        }
        for (int k = 0; k < 30; k++) {
            Due.is("deliver(0)", x.deliver(0), 5);
            Due.is("flying()", x.flying(), 30);
        }
        Scenes.calm(x);
        for (int node = 0; node < 6; node++) {
            Due.is("result", x.result(node), 100 + node);
            Due.is("access", x.access(node, node), 2);
        }
    }

    // 17

    private static void letterIs(Pages x, int i, int... parts) {
        for (int what = 0; what < parts.length; what++) {
            Due.is("letter(" + i + ", " + what + ")", x.letter(i, what), parts[what]);
        }
    }

    private static void letterOfAll() {
        Pages x = new Real();
        x.read(3, 6, 0);
        letterIs(x, 0, 1, 3, 2, 6, 3, 0);
        x.deliver(0);
        letterIs(x, 0, 3, 2, 3, 6, NONE, 0);
        x.deliver(0);
        x.write(0, 6, 0, 1);
        letterIs(x, 0, 2, 0, 2, 6, 0, 0);
        x.deliver(0);
        letterIs(x, 0, 4, 2, 0, 6, NONE, 8);
        x.deliver(0);
        letterIs(x, 0, 5, 0, 3, 6, NONE, 0);
        x.deliver(0);
        letterIs(x, 0, 6, 3, 0, 6, NONE, 0);
        for (int bad : new int[] {-1, 6, 7, Integer.MIN_VALUE, Integer.MAX_VALUE}) {
            Due.is("letter(0, " + bad + ")", x.letter(0, bad), -2);
        }
        for (int bad : new int[] {-1, 1, 31, 32, Integer.MIN_VALUE, Integer.MAX_VALUE}) {
            Due.is("letter(" + bad + ", 0)", x.letter(bad, 0), -2);
        }
        x.deliver(0);
        Due.is("letter(0, 0) of none", x.letter(0, 0), -2);
        copiesOfLettersUsedAgain();
    }

    /** After many pages sent with copies, letters of other kinds still show none. */
    private static void copiesOfLettersUsedAgain() {
        Pages x = new Real();
        for (int k = 0; k < 60; k++) {
            x.read(2, 0, 0);
            Scenes.calm(x);
            x.write(k % 2, 0, 0, k);
            for (int step = 0; step < 10 && x.flying() > 0; step++) {
                int copies = x.letter(0, 0) == 4 ? 4 : 0;
                Due.is("letter(0, 5) of kind " + x.letter(0, 0), x.letter(0, 5), copies);
                x.deliver(0);
            }
        }
    }

    // 18

    private static void letterWordOfAll() {
        Pages x = new Real();
        for (int word = 0; word < 4; word++) {
            x.write(2, 2, word, 20 + word);
        }
        x.read(0, 2, 0);
        Due.is("word of an asking", x.letterWord(0, 0), 0);
        x.deliver(0);
        x.write(1, 2, 0, 9);
        x.deliver(1);
        for (int word = 0; word < 4; word++) {
            Due.is("word of a page to read", x.letterWord(0, word), 20 + word);
            Due.is("word of a page to write", x.letterWord(1, word), 20 + word);
        }
        for (int bad : NO_WORD) {
            Due.is("letterWord(0, " + bad + ")", x.letterWord(0, bad), 0);
        }
        for (int bad : new int[] {-1, 2, 31, 32, Integer.MIN_VALUE, Integer.MAX_VALUE}) {
            Due.is("letterWord(" + bad + ", 0)", x.letterWord(bad, 0), 0);
        }
        x.deliver(1);
        Due.is("kind", x.letter(1, 0), 5);
        Due.is("word of a call", x.letterWord(1, 0), 0);
        wordsOfLettersUsedAgain();
        wordsOfALetterStay();
    }

    /** After many pages sent, letters without words still show none. */
    private static void wordsOfLettersUsedAgain() {
        Pages x = new Real();
        x.write(0, 0, 0, 1234);
        for (int k = 0; k < 100; k++) {
            x.write(k % 2, 0, 0, 1234);
            Due.is("an asking has no words", x.letterWord(0, 0), 0);
            Scenes.calm(x);
        }
        x.read(2, 0, 0);
        x.deliver(0);
        Scenes.calm(x);
        x.write(x.owner(0), 0, 1, 1);
        Due.is("a call", x.letter(0, 0), 5);
        Due.is("a call has no words", x.letterWord(0, 0), 0);
        x.deliver(0);
        Due.is("an answer has no words", x.letterWord(0, 0), 0);
    }

    /** What is written behind it does not change a page that is on its way. */
    private static void wordsOfALetterStay() {
        Pages x = new Real();
        x.write(0, 0, 0, 1);
        x.read(1, 0, 0);
        x.deliver(0);
        x.write(0, 0, 0, 2);
        x.deliver(1);
        x.deliver(1);
        Due.is("word(0, 0, 0)", x.word(0, 0, 0), 2);
        Due.is("letterWord(0, 0)", x.letterWord(0, 0), 1);
    }

    // 19

    private static void countsAre(Pages x, int... counts) {
        for (int what = 0; what < counts.length; what++) {
            Due.is("count(" + what + ")", x.count(what), counts[what]);
        }
    }

    private static void countOfAll() {
        Pages x = new Real();
        countsAre(x, 4, 0, 0, 0, 0, 0, 0, 0);
        x.read(0, 0, 0);
        x.write(0, 0, 0, 1);
        countsAre(x, 4, 0, 0, 0, 0, 0, 2, 2);
        x.write(1, 0, 0, 1);
        countsAre(x, 4, 1, 0, 0, 0, 0, 2, 2);
        x.deliver(0);
        countsAre(x, 4, 2, 0, 0, 1, 0, 2, 2);
        x.deliver(0);
        // It waited for the page, so it was not done at once though there was none to call.
        countsAre(x, 4, 2, 0, 0, 1, 0, 3, 2);
        x.read(2, 0, 0);
        x.deliver(0);
        countsAre(x, 4, 4, 1, 0, 1, 0, 3, 2);
        x.deliver(0);
        countsAre(x, 4, 5, 1, 1, 1, 0, 3, 2);
        x.deliver(0);
        countsAre(x, 4, 5, 1, 1, 1, 0, 4, 2);
        x.write(1, 0, 0, 1);
        countsAre(x, 4, 6, 1, 1, 1, 1, 4, 2);
        x.deliver(0);
        x.deliver(0);
        countsAre(x, 4, 7, 1, 1, 1, 1, 5, 2);
        for (int bad : new int[] {-1, 8, 9, Integer.MIN_VALUE, Integer.MAX_VALUE}) {
            Due.is("count(" + bad + ")", x.count(bad), NONE);
        }
        x.begin(2);
        countsAre(x, 2, 0, 0, 0, 0, 0, 0, 0);
    }
}
