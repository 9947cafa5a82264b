import java.lang.reflect.Field;

/**
 * The edges that the document names in its promises: a test for each sentence, and before it on
 * its line the sentence's words. A refused call is made on objects in several states, and
 * nothing may change by it.
 */
public final class EdgesOfPromises {
    private static final int NONE = PageOwners.NONE;
    private static final int NO_LETTER = -2;

    public static void main(String[] args) throws Exception {
        by(1, "As behind begin(4)."); newObject();
        by(2, "So many nodes, all as at first"); beginFewestAndMost();
        by(2, "nothing in flight or at hand, counts 0"); beginLeavesNothing();
        by(2, "False, and nothing changes: not 2 .. 6"); beginOutside();
        by(3, "1 it is done, 0 it waits"); readAnswers();
        by(3, "NONE: no such node, page, word"); readOfNoNode(); readOfNoPage(); readOfNoWord();
        by(3, "it waits already"); readOfOneThatWaits();
        by(4, "As read()"); writeAnswers();
        by(4, "As read()"); writeOfNoNode(); writeOfNoPage(); writeOfNoWord();
        by(4, "As read()"); writeOfOneThatWaits();
        by(5, "in the order in which they were sent"); deliverFirstAndLast();
        by(5, "NONE: none such"); deliverNoLetter();
        by(6, "0 nothing, 1 it waits for a page to read, 2 to write, 3 for answers"); waitsOfEach();
        by(6, "NONE: none such"); waitsOfNoNode();
        by(7, "Of what a node has at hand, or did last"); atFirstAndLast();
        by(7, "NONE: none such"); atOfNone();
        by(7, "it never had one (but for 4)"); atOfOneThatNeverHadOne();
        by(8, "of things done; 0 before"); resultBefore();
        by(8, "0 before"); resultOfNoNode();
        by(9, "NONE: none such"); accessOfNone();
        by(10, "NONE: none such"); ownerOfNone();
        by(10, "or it is on its way"); ownerOnItsWay();
        by(11, "NONE: none such"); guessOfNone();
        by(12, "as bits"); copiesFirstAndLastBit();
        by(12, "NONE: none such"); copiesOfNone();
        by(13, "also without access, as it had it last"); wordWithoutAccess();
        by(13, "0: none such"); wordOfNone();
        by(14, "How many askings stand in a node's queue of a page"); queueEmptyAndFull();
        by(14, "NONE: none such"); queueOfNone();
        by(15, "to the first one that is the page's owner"); chainToTheOwner();
        by(15, "to which it is on its way"); chainToWhereItGoes();
        by(15, "or that waits for it to write"); chainToOneThatWaits();
        by(15, "NONE: none such"); chainOfNone();
        by(15, "they lead round"); chainThatLeadsRound();
        by(16, "How many letters are in flight"); flyingNoneAndMost();
        by(17, "4 node (of 3 to 6 NONE)"); nodeOfALetter();
        by(17, "5 copies (of 4; else 0)"); copiesOfALetter();
        by(17, "-2: none such"); letterOfNone();
        by(18, "Word k of a letter 3 or 4"); wordsOfALetter();
        by(18, "0: none such"); letterWordOfNone();
        by(19, "0 nodes, 1 letters sent"); countFirstAndLast();
        by(19, "7 of these at once"); countAtOnce();
        by(19, "NONE: another number"); countOfNone();
        Due.end("edges of the promises");
    }

    private static void by(int promise, String words) {
        Due.by("promise " + promise, words);
    }

    /** A test of a scene of so many nodes with so many letters in flight. */
    private interface Test {
        void on(Refused.Scene scene, int nodes, int letters);
    }

    private static void inEachScene(Test test) {
        test.on(Real::new, 4, 0);
        test.on(Scenes::busy, 4, 3);
        test.on(Scenes::readByAll, 4, 0);
        for (int n = 2; n <= 6; n++) {
            int nodes = n;
            test.on(() -> Scenes.used(nodes), n, Scenes.used(n).flying());
        }
        test.on(EdgesOfPromises::mostLetters, 6, 30);
    }

    /** Each of six nodes waits for five answers. */
    private static Pages mostLetters() {
        Pages x = Scenes.begun(6);
        for (int page = 0; page < 6; page++) {
            for (int node = 0; node < 6; node++) {
                x.read(node, page, 0);
            }
            Scenes.calm(x);
        }
        for (int node = 0; node < 6; node++) {
            Due.is("write", x.write(node, node, 0, 100 + node), 0);
        }
        return x;
    }

    // 1

    private static void newObject() {
        Pages x = new Real();
        Due.is("count(0)", x.count(0), 4);
        Due.is("waits of the last node", x.waits(3), 0);
        Due.is("waits of one more", x.waits(4), NONE);
        Due.same("a new object", x, Scenes.begun(4));
        // The object stands without begin: it can be used at once.
        Due.is("write of the last node to the last page", new Real().write(3, 7, 3, 1), 1);
    }

    // 2

    private static void beginFewestAndMost() {
        for (int n = 2; n <= 6; n++) {
            Pages x = Scenes.used(6);
            Due.is("begin(" + n + ")", x.begin(n) ? 1 : 0, 1);
            Due.is("count(0)", x.count(0), n);
            Due.is("waits of the last node", x.waits(n - 1), 0);
            Due.is("waits of one more", x.waits(n), NONE);
            Due.same("begin(" + n + ") behind six nodes", x, Scenes.begun(n));
            for (int node = 0; node < n; node++) {
                for (int page = 0; page < 8; page++) {
                    Due.is("access", x.access(node, page), node == page % n ? 2 : 0);
                    Due.is("guess", x.guess(node, page), page % n);
                    Due.is("word", x.word(node, page, 0) | x.word(node, page, 3), 0);
                }
            }
        }
        Pages again = Scenes.used(2);
        again.begin(6);
        Due.same("begin(6) behind two nodes", again, Scenes.begun(6));
    }

    private static void beginLeavesNothing() {
        Pages[] scenes = {mostLetters(), Scenes.busy(), Scenes.used(6), Scenes.readByAll()};
        for (Pages x : scenes) {
            Due.is("begin(4)", x.begin(4) ? 1 : 0, 1);
            Due.is("flying()", x.flying(), 0);
            Due.is("deliver(0)", x.deliver(0), NONE);
            for (int node = 0; node < 4; node++) {
                Due.is("waits", x.waits(node), 0);
                Due.is("at(" + node + ", 0)", x.at(node, 0), NONE);
                Due.is("at(" + node + ", 4)", x.at(node, 4), 0);
                Due.is("result", x.result(node), 0);
                Due.is("queue", x.queue(node, 0), 0);
            }
            for (int what = 1; what <= 7; what++) {
                Due.is("count(" + what + ")", x.count(what), 0);
            }
            // What was left behind may show only when it is used again.
            Pages fresh = new Real();
            for (int node = 0; node < 4; node++) {
                x.read(node, 0, 2);
                fresh.read(node, 0, 2);
            }
            Due.same("reads behind begin", x, fresh);
            Scenes.calm(x);
            Scenes.calm(fresh);
            x.write(0, 0, 0, 1);
            fresh.write(0, 0, 0, 1);
            Due.same("a write behind begin", x, fresh);
        }
    }

    private static void beginOutside() {
        inEachScene((scene, nodes, letters) ->
            Refused.outside("begin", scene, 2, 6, 0, (x, bad) -> x.begin(bad) ? 1 : 0));
        Refused.is("begin(0)", Scenes::busy, 0, x -> x.begin(0) ? 1 : 0);
    }

    // 3

    private static void readAnswers() {
        Pages x = Scenes.readByAll();
        Due.is("read with access 2", x.read(3, 7, 3), 1);
        Due.is("waits(3)", x.waits(3), 0);
        Due.is("read with access 1", x.read(3, 0, 2), 1);
        Due.is("result(3)", x.result(3), 55);
        Due.is("read with access 0", x.read(3, 6, 0), 0);
        Due.is("waits(3)", x.waits(3), 1);
    }

    private static void readOfNoNode() {
        inEachScene((scene, nodes, letters) -> {
            Refused.outside("read of node", scene, 0, nodes - 1, NONE,
                    (x, bad) -> x.read(bad, 0, 0));
            Refused.outside("read of node", scene, 0, nodes - 1, NONE,
                    (x, bad) -> x.read(bad, 7, 3));
        });
        for (int n = 2; n <= 6; n++) {
            Due.is("read of the first node", Scenes.begun(n).read(0, 0, 0), 1);
            Due.is("read of the last node", Scenes.begun(n).read(n - 1, 0, 0), 0);
        }
    }

    private static void readOfNoPage() {
        inEachScene((scene, nodes, letters) -> {
            Refused.outside("read of page", scene, 0, 7, NONE, (x, bad) -> x.read(0, bad, 0));
            Refused.outside("read of page", scene, 0, 7, NONE,
                    (x, bad) -> x.read(nodes - 1, bad, 3));
            Refused.bothOutside("read of node and page", scene, nodes - 1, 7, NONE,
                    (x, a, b) -> x.read(a, b, 0));
        });
        Due.is("read of the first page", new Real().read(0, 0, 0), 1);
        Due.is("read of the last page", new Real().read(3, 7, 0), 1);
    }

    private static void readOfNoWord() {
        inEachScene((scene, nodes, letters) -> {
            Refused.outside("read of word", scene, 0, 3, NONE, (x, bad) -> x.read(0, 0, bad));
            Refused.outside("read of word", scene, 0, 3, NONE,
                    (x, bad) -> x.read(nodes - 1, 7, bad));
            Refused.bothOutside("read of page and word", scene, 7, 3, NONE,
                    (x, a, b) -> x.read(0, a, b));
        });
        Due.is("read of the first word", new Real().read(0, 0, 0), 1);
        Due.is("read of the last word", new Real().read(0, 0, 3), 1);
    }

    /** Of a busy object nodes 0, 1 and 3 wait, each for something else. */
    private static void readOfOneThatWaits() {
        for (int page = 0; page < 8; page++) {
            int p = page;
            Refused.is("read while it waits to read", Scenes::busy, NONE, x -> x.read(0, p, 1));
            Refused.is("read while it waits for answers", Scenes::busy, NONE, x -> x.read(1, p, 1));
            Refused.is("read while it waits to write", Scenes::busy, NONE, x -> x.read(3, p, 3));
        }
        Pages x = Scenes.busy();
        Due.is("read of one that waits for nothing", x.read(2, 2, 0), 1);
        Due.is("read of it again", x.read(2, 2, 0), 1);
        Scenes.calm(x);
        for (int node = 0; node < 4; node++) {
            Due.is("read when it waits no more", x.read(node, node + 4, 0), 1);
        }
    }

    // 4

    private static void writeAnswers() {
        Pages x = Scenes.readByAll();
        Due.is("write with access 2", x.write(3, 7, 3, Long.MIN_VALUE), 1);
        Due.is("result(3)", x.result(3), Long.MIN_VALUE);
        Due.is("write with access 2", x.write(3, 7, 3, Long.MAX_VALUE), 1);
        Due.is("result(3)", x.result(3), Long.MAX_VALUE);
        Due.is("write of an owner with access 1", x.write(0, 0, 0, -1), 0);
        Due.is("waits(0)", x.waits(0), 3);
        Due.is("write with access 1", x.write(1, 0, 0, -1), 0);
        Due.is("waits(1)", x.waits(1), 2);
        Due.is("write with access 0", x.write(3, 6, 0, -1), 0);
        Due.is("waits(3)", x.waits(3), 2);
    }

    private static void writeOfNoNode() {
        inEachScene((scene, nodes, letters) -> {
            Refused.outside("write of node", scene, 0, nodes - 1, NONE,
                    (x, bad) -> x.write(bad, 0, 0, 5));
            Refused.outside("write of node", scene, 0, nodes - 1, NONE,
                    (x, bad) -> x.write(bad, 7, 3, 5));
        });
        for (int n = 2; n <= 6; n++) {
            Due.is("write of the first node", Scenes.begun(n).write(0, 0, 0, 5), 1);
            Due.is("write of the last node", Scenes.begun(n).write(n - 1, 0, 0, 5), 0);
        }
    }

    private static void writeOfNoPage() {
        inEachScene((scene, nodes, letters) -> {
            Refused.outside("write of page", scene, 0, 7, NONE, (x, bad) -> x.write(0, bad, 0, 5));
            Refused.outside("write of page", scene, 0, 7, NONE,
                    (x, bad) -> x.write(nodes - 1, bad, 3, 5));
            Refused.bothOutside("write of node and page", scene, nodes - 1, 7, NONE,
                    (x, a, b) -> x.write(a, b, 0, 5));
        });
        Due.is("write of the first page", new Real().write(0, 0, 0, 5), 1);
        Due.is("write of the last page", new Real().write(3, 7, 0, 5), 1);
    }

    private static void writeOfNoWord() {
        inEachScene((scene, nodes, letters) -> {
            Refused.outside("write of word", scene, 0, 3, NONE, (x, bad) -> x.write(0, 0, bad, 5));
            Refused.outside("write of word", scene, 0, 3, NONE,
                    (x, bad) -> x.write(nodes - 1, 7, bad, 5));
            Refused.bothOutside("write of page and word", scene, 7, 3, NONE,
                    (x, a, b) -> x.write(0, a, b, 5));
        });
        Due.is("write of the first word", new Real().write(0, 0, 0, 5), 1);
        Due.is("write of the last word", new Real().write(0, 0, 3, 5), 1);
    }

    private static void writeOfOneThatWaits() {
        for (int page = 0; page < 8; page++) {
            int p = page;
            Refused.is("write while it waits to read", Scenes::busy, NONE,
                    x -> x.write(0, p, 1, 5));
            Refused.is("write while it waits for answers", Scenes::busy, NONE,
                    x -> x.write(1, p, 1, 5));
            Refused.is("write while it waits to write", Scenes::busy, NONE,
                    x -> x.write(3, p, 3, 5));
        }
        Pages x = Scenes.busy();
        Due.is("write of one that waits for nothing", x.write(2, 2, 0, 5), 1);
        Due.is("write of it again", x.write(2, 2, 0, 6), 1);
        Scenes.calm(x);
        Due.is("what was refused is not written", x.word(3, 1, 3), 77);
        for (int node = 0; node < 4; node++) {
            Due.is("write when it waits no more", x.write(node, node + 4, 0, 5), 1);
        }
    }

    // 5

    private static void deliverFirstAndLast() {
        for (int i = 0; i < 30; i++) {
            Pages x = mostLetters();
            int to = x.letter(i, 2);
            int page = x.letter(i, 3);
            Due.is("access of who is called", x.access(to, page), 1);
            Due.is("deliver(" + i + ")", x.deliver(i), 5);
            Due.is("access of who was called", x.access(to, page), 0);
            Due.is("flying()", x.flying(), 30);
            Due.is("its answer stands last", x.letter(29, 0), 6);
            Due.is("and is of who was called", x.letter(29, 1), to);
            Due.is("for the page", x.letter(29, 3), page);
            Pages untouched = mostLetters();
            for (int k = 0; k < 29; k++) {
                int before = k < i ? k : k + 1;
                Due.is("the others keep their order", x.letter(k, 2) * 10 + x.letter(k, 3),
                        untouched.letter(before, 2) * 10 + untouched.letter(before, 3));
            }
        }
    }

    private static void deliverNoLetter() {
        inEachScene((scene, nodes, letters) ->
            Refused.outside("deliver", scene, 0, letters - 1, NONE, (x, bad) -> x.deliver(bad)));
        Refused.is("deliver(0) of none", Real::new, NONE, x -> x.deliver(0));
        for (int last = 1; last <= 3; last++) {
            Pages x = new Real();
            for (int node = 1; node <= last; node++) {
                x.read(node, 0, 0);
            }
            Due.is("deliver one behind the last", x.deliver(last), NONE);
            Due.is("deliver the last", x.deliver(last - 1), 1);
        }
    }

    // 6

    private static void waitsOfEach() {
        Pages x = Scenes.busy();
        Due.is("waits(2)", x.waits(2), 0);
        Due.is("waits(0)", x.waits(0), 1);
        Due.is("waits(3)", x.waits(3), 2);
        Due.is("waits(1)", x.waits(1), 3);
        Scenes.calm(x);
        for (int node = 0; node < 4; node++) {
            Due.is("waits when all is done", x.waits(node), 0);
        }
    }

    private static void waitsOfNoNode() {
        inEachScene((scene, nodes, letters) ->
            Refused.outside("waits", scene, 0, nodes - 1, NONE, (x, bad) -> x.waits(bad)));
        for (int n = 2; n <= 6; n++) {
            Due.is("waits of the first node", Scenes.begun(n).waits(0), 0);
            Due.is("waits of the last node", Scenes.begun(n).waits(n - 1), 0);
        }
    }

    // 7

    private static void atFirstAndLast() {
        Pages x = new Real();
        Due.is("write", x.write(3, 7, 3, 5), 1);
        dueAt(x, 3, 7, 3, 1, 0, 1);
        Due.is("read", x.read(3, 3, 0), 1);
        dueAt(x, 3, 3, 0, 0, 0, 2);
        Due.is("a read that waits", x.read(3, 0, 2), 0);
        dueAt(x, 3, 0, 2, 0, 0, 2);
        Scenes.calm(x);
        dueAt(x, 3, 0, 2, 0, 0, 3);
        Due.is("a write that waits", x.write(3, 0, 1, 5), 0);
        dueAt(x, 3, 0, 1, 1, 0, 3);
        Scenes.calm(x);
        dueAt(x, 3, 0, 1, 1, 0, 4);
        Pages y = mostLetters();
        dueAt(y, 5, 5, 0, 1, 5, 6);
        Scenes.calm(y);
        dueAt(y, 5, 5, 0, 1, 0, 7);
        // A call that is refused is nothing that it had at hand.
        y.write(5, 8, 3, 1);
        y.read(5, 0, 4);
        dueAt(y, 5, 5, 0, 1, 0, 7);
    }

    private static void dueAt(Pages x, int node, int... parts) {
        for (int what = 0; what < parts.length; what++) {
            Due.is("at(" + node + ", " + what + ")", x.at(node, what), parts[what]);
        }
    }

    private static void atOfNone() {
        inEachScene((scene, nodes, letters) -> {
            for (int k = 0; k <= 4; k++) {
                int what = k;
                Refused.outside("at of node, " + what, scene, 0, nodes - 1, NONE,
                        (x, bad) -> x.at(bad, what));
            }
            Refused.outside("at of the first node", scene, 0, 4, NONE, (x, bad) -> x.at(0, bad));
            Refused.outside("at of the last node", scene, 0, 4, NONE,
                    (x, bad) -> x.at(nodes - 1, bad));
            Refused.bothOutside("at", scene, nodes - 1, 4, NONE, (x, a, b) -> x.at(a, b));
        });
    }

    private static void atOfOneThatNeverHadOne() {
        for (int n = 2; n <= 6; n++) {
            Pages x = Scenes.used(6);
            x.begin(n);
            // Others have one; and what is refused is none.
            x.read(0, 0, 0);
            x.write(n - 1, 8, 0, 1);
            x.write(n - 1, 0, 4, 1);
            x.read(n - 1, -1, 0);
            dueAt(x, n - 1, NONE, NONE, NONE, NONE, 0);
            Due.is("at(last, 5)", x.at(n - 1, 5), NONE);
            Due.is("at(last, -1)", x.at(n - 1, -1), NONE);
            dueAt(x, 0, 0, 0, 0, 0, 1);
            x.read(n - 1, 0, 3);
            dueAt(x, n - 1, 0, 3, 0, 0, 0);
        }
        // Serving others is nothing at hand.
        Pages y = new Real();
        y.write(1, 0, 0, 1);
        Scenes.calm(y);
        y.read(2, 0, 0);
        Scenes.calm(y);
        dueAt(y, 0, NONE, NONE, NONE, NONE, 0);
    }

    // 8

    private static void resultBefore() {
        Pages x = new Real();
        x.write(0, 0, 0, 8);
        for (int node = 1; node < 4; node++) {
            Due.is("result before", x.result(node), 0);
        }
        Due.is("a read that waits", x.read(1, 0, 0), 0);
        Due.is("result while it waits", x.result(1), 0);
        x.deliver(0);
        Due.is("result while its page is on its way", x.result(1), 0);
        x.deliver(0);
        Due.is("result when it is done", x.result(1), 8);
        Due.is("a write that waits", x.write(1, 0, 0, 9), 0);
        Due.is("result while it waits", x.result(1), 8);
        x.deliver(0);
        Due.is("result while its page is on its way", x.result(1), 8);
        x.deliver(0);
        Due.is("result when it is done", x.result(1), 9);
        x.write(1, 8, 0, 5);
        Due.is("result behind a refused call", x.result(1), 9);
        x.begin(4);
        Due.is("result behind begin", x.result(1), 0);
    }

    private static void resultOfNoNode() {
        inEachScene((scene, nodes, letters) ->
            Refused.outside("result", scene, 0, nodes - 1, 0, (x, bad) -> x.result(bad)));
        for (int n = 2; n <= 6; n++) {
            Pages x = Scenes.begun(n);
            x.write(0, 0, 0, 7);
            x.write(n - 1, n - 1, 0, 8);
            Due.is("result of the first node", x.result(0), 7);
            Due.is("result of the last node", x.result(n - 1), 8);
        }
    }

    // 9 to 15

    /** Of a call with a node and a page: no such node, no such page, and neither. */
    private static void noSuchNodeOrPage(String told, Refused.CallOfTwo call) {
        inEachScene((scene, nodes, letters) -> {
            Refused.outside(told + " of node", scene, 0, nodes - 1, NONE,
                    (x, bad) -> call.on(x, bad, 0));
            Refused.outside(told + " of node", scene, 0, nodes - 1, NONE,
                    (x, bad) -> call.on(x, bad, 7));
            Refused.outside(told + " of page", scene, 0, 7, NONE, (x, bad) -> call.on(x, 0, bad));
            Refused.outside(told + " of page", scene, 0, 7, NONE,
                    (x, bad) -> call.on(x, nodes - 1, bad));
            Refused.bothOutside(told, scene, nodes - 1, 7, NONE, call);
        });
    }

    private static void accessOfNone() {
        noSuchNodeOrPage("access", (x, node, page) -> x.access(node, page));
        Due.is("access of the first", new Real().access(0, 0), 2);
        Due.is("access of the last", new Real().access(3, 7), 2);
        Due.is("access of the last node", new Real().access(3, 0), 0);
        Due.is("access of the last page", new Real().access(0, 7), 0);
    }

    private static void ownerOfNone() {
        inEachScene((scene, nodes, letters) ->
            Refused.outside("owner", scene, 0, 7, NONE, (x, bad) -> x.owner(bad)));
        Due.is("owner of the first page", new Real().owner(0), 0);
        Due.is("owner of the last page", new Real().owner(7), 3);
        Pages x = Scenes.begun(6);
        x.write(5, 7, 0, 1);
        Scenes.calm(x);
        Due.is("the last node as owner of the last page", x.owner(7), 5);
    }

    private static void ownerOnItsWay() {
        for (int page = 0; page < 8; page++) {
            Pages x = new Real();
            int owner = page % 4;
            int writer = (page + 1) % 4;
            x.read((page + 2) % 4, page, 0);
            Scenes.calm(x);
            x.write(writer, page, 0, 1);
            Due.is("owner while it is asked for", x.owner(page), owner);
            x.deliver(0);
            Due.is("owner while it is on its way", x.owner(page), NONE);
            Due.is("owner of another page", x.owner((page + 4) % 8), owner);
            x.deliver(0);
            Due.is("owner while it waits for an answer", x.owner(page), writer);
            Scenes.calm(x);
            Due.is("owner when all is done", x.owner(page), writer);
        }
        // A page to read that is on its way leaves the owner where it was.
        Pages y = new Real();
        y.read(1, 0, 0);
        y.deliver(0);
        Due.is("owner while a copy is on its way", y.owner(0), 0);
    }

    private static void guessOfNone() {
        noSuchNodeOrPage("guess", (x, node, page) -> x.guess(node, page));
        Due.is("guess of the first", new Real().guess(0, 0), 0);
        Due.is("guess of the last", new Real().guess(3, 7), 3);
        Due.is("guess of the last node", new Real().guess(3, 0), 0);
        Due.is("guess of the last page", new Real().guess(0, 7), 3);
    }

    private static void copiesFirstAndLastBit() {
        Pages x = Scenes.begun(6);
        x.read(0, 7, 0);
        Scenes.calm(x);
        Due.is("copies, the first bit", x.copies(1, 7), 1);
        x.read(5, 7, 0);
        Scenes.calm(x);
        Due.is("copies, the first and the last bit", x.copies(1, 7), 33);
        for (int node = 2; node <= 4; node++) {
            x.read(node, 7, 0);
            Scenes.calm(x);
        }
        Due.is("copies, all bits but its own", x.copies(1, 7), 61);
        Due.is("copies of one that is no owner", x.copies(0, 7), 0);
        Due.is("copies of another page", x.copies(1, 1), 0);
    }

    private static void copiesOfNone() {
        noSuchNodeOrPage("copies", (x, node, page) -> x.copies(node, page));
        Due.is("copies of the first", new Real().copies(0, 0), 0);
        Due.is("copies of the last", new Real().copies(3, 7), 0);
    }

    private static void wordWithoutAccess() {
        Pages x = Scenes.readByAll();
        Due.is("word of one that never had the page", x.word(0, 1, 2), 0);
        x.write(0, 0, 2, 56);
        Scenes.calm(x);
        Due.is("access of one called back", x.access(3, 0), 0);
        Due.is("its word, as it had it last", x.word(3, 0, 2), 55);
        x.write(3, 0, 2, 57);
        Due.is("its word while it waits to write", x.word(3, 0, 2), 55);
        Scenes.calm(x);
        Due.is("its word when it is done", x.word(3, 0, 2), 57);
        Due.is("access of who gave it", x.access(0, 0), 0);
        Due.is("word of who gave it", x.word(0, 0, 2), 56);
        // A page that was called back on its way is had too.
        x.read(1, 0, 2);
        x.deliver(0);
        x.deliver(0);
        x.write(3, 0, 2, 58);
        Due.is("the call comes first", x.deliver(1), 5);
        Due.is("word before the page", x.word(1, 0, 2), 55);
        Due.is("then the page", x.deliver(0), 3);
        Due.is("access(1, 0)", x.access(1, 0), 0);
        Due.is("word without access", x.word(1, 0, 2), 57);
    }

    private static void wordOfNone() {
        Refused.Scene full = EdgesOfPromises::allWordsWritten;
        Refused.outside("word of node", full, 0, 5, 0, (x, bad) -> x.word(bad, 0, 0));
        Refused.outside("word of node", full, 0, 5, 0, (x, bad) -> x.word(bad, 7, 3));
        Refused.outside("word of page", full, 0, 7, 0, (x, bad) -> x.word(0, bad, 0));
        Refused.outside("word of page", full, 0, 7, 0, (x, bad) -> x.word(5, bad, 3));
        for (int k = 0; k < 8; k++) {
            int page = k;
            Refused.outside("word of page " + page, full, 0, 3, 0,
                    (x, bad) -> x.word(0, page, bad));
        }
        Refused.bothOutside("word of node and page", full, 5, 7, 0, (x, a, b) -> x.word(a, b, 0));
        Refused.bothOutside("word of page and word", full, 7, 3, 0, (x, a, b) -> x.word(0, a, b));
        Refused.bothOutside("word of node and word", full, 5, 3, 0, (x, a, b) -> x.word(a, 0, b));
        Pages x = allWordsWritten();
        for (int k = 0; k < 6 * 32; k++) {
            Due.is("word that is one", x.word(k / 32, k / 4 % 8, k % 4), 1 + k % 32);
        }
        // Words of nodes that were there before are none.
        x.begin(2);
        Due.is("word of a node that is gone", x.word(2, 0, 0), 0);
        inEachScene((scene, nodes, letters) ->
            Refused.outside("word of node", scene, 0, nodes - 1, 0, (y, bad) -> y.word(bad, 0, 0)));
    }

    /** All six nodes have all 32 words, the first 1 and the last 32. */
    private static Pages allWordsWritten() {
        Pages x = Scenes.begun(6);
        for (int k = 0; k < 32; k++) {
            Due.is("write", x.write(k / 4 % 6, k / 4, k % 4, 1 + k), 1);
        }
        for (int page = 0; page < 8; page++) {
            for (int node = 0; node < 6; node++) {
                x.read(node, page, 0);
            }
            Scenes.calm(x);
        }
        return x;
    }

    private static void queueEmptyAndFull() {
        Pages x = Scenes.begun(6);
        Due.is("queue at first", x.queue(5, 7), 0);
        x.write(5, 7, 0, 1);
        x.deliver(0);
        int asked = 0;
        for (int node : new int[] {1, 0, 2, 3, 4}) {
            x.read(node, 7, 0);
            if (node != 1) {
                Due.is("sent on by node 1", x.deliver(1), 1);
            }
            Due.is("queue while the asking is in flight", x.queue(5, 7), asked);
            Due.is("deliver(1)", x.deliver(1), 1);
            asked++;
            Due.is("queue", x.queue(5, 7), asked);
            Due.is("queue of another page", x.queue(5, 6), 0);
            Due.is("queue of another node", x.queue(4, 7), 0);
        }
        x.deliver(0);
        Due.is("queue when the write is done", x.queue(5, 7), 0);
    }

    private static void queueOfNone() {
        noSuchNodeOrPage("queue", (x, node, page) -> x.queue(node, page));
        Due.is("queue of the first", new Real().queue(0, 0), 0);
        Due.is("queue of the last", new Real().queue(3, 7), 0);
    }

    /** Who reads before it writes asks the owner itself, so that guesses are left in a line. */
    private static Pages guessesInALine(int nodes) {
        Pages x = Scenes.begun(nodes);
        for (int node = 1; node < nodes; node++) {
            x.read(node, 0, 0);
            Scenes.calm(x);
            x.write(node, 0, 0, node);
            Scenes.calm(x);
        }
        return x;
    }

    private static void chainToTheOwner() {
        for (int n = 2; n <= 6; n++) {
            Pages x = guessesInALine(n);
            Due.is("owner(0)", x.owner(0), n - 1);
            for (int node = 0; node < n; node++) {
                Due.is("chain(" + node + ", 0) of " + n, x.chain(node, 0), n - 1 - node);
            }
            Pages y = Scenes.begun(n);
            for (int node = 0; node < n; node++) {
                Due.is("chain at first", y.chain(node, 7), node == 7 % n ? 0 : 1);
            }
        }
        // One that reads, or waits to read, or waits to write another page, is on the way.
        Pages x = guessesInALine(6);
        x.read(1, 0, 0);
        x.write(2, 3, 0, 5);
        Due.is("chain by those that wait for something else", x.chain(0, 0), 5);
        // An owner that waits for answers is an end too.
        Pages y = Scenes.readByAll();
        y.write(0, 0, 0, 1);
        Due.is("chain to one that waits for answers", y.chain(3, 0) * 10 + y.chain(0, 0), 10);
    }

    private static void chainToWhereItGoes() {
        Pages x = guessesInALine(5);
        x.write(0, 0, 0, 9);
        for (int k = 0; k < 4; k++) {
            Due.is("the asking comes", x.deliver(0), 2);
        }
        Due.is("the page is on its way", x.letter(0, 0), 4);
        Due.is("owner(0)", x.owner(0), NONE);
        for (int node = 0; node < 5; node++) {
            Due.is("chain(" + node + ", 0)", x.chain(node, 0), node == 0 ? 0 : 1);
        }
        Pages y = Scenes.begun(6);
        y.write(1, 0, 0, 9);
        y.deliver(0);
        Due.is("chain of who gave it", y.chain(0, 0), 1);
        Due.is("chain by way of who gave it", y.chain(5, 0), 2);
        Due.is("chain of who gets it", y.chain(1, 0), 0);
    }

    private static void chainToOneThatWaits() {
        Pages x = guessesInALine(6);
        Due.is("chain before it waits", x.chain(0, 0) * 10 + x.chain(3, 0), 52);
        x.write(3, 0, 0, 9);
        Due.is("chain from one that waits to write", x.chain(3, 0), 0);
        Due.is("chain to one that waits to write", x.chain(0, 0), 3);
        Due.is("chain from behind it", x.chain(4, 0), 1);
        Pages y = guessesInALine(6);
        y.read(3, 0, 0);
        Due.is("chain by one that waits to read", y.chain(0, 0) * 10 + y.chain(3, 0), 52);
    }

    private static void chainOfNone() {
        noSuchNodeOrPage("chain", (x, node, page) -> x.chain(node, page));
        Due.is("chain of the first", new Real().chain(0, 0), 0);
        Due.is("chain of the last", new Real().chain(3, 7), 0);
        Due.is("chain of the last node", new Real().chain(3, 0), 1);
        Due.is("chain of the last page", new Real().chain(0, 7), 1);
    }

    /**
     * No run of calls makes guesses lead round: whom a node guesses was the owner, or waited to
     * write, later than it was itself. So here guesses are set by force, in the row that holds
     * them.
     */
    private static void chainThatLeadsRound() throws Exception {
        for (int n = 3; n <= 6; n++) {
            PageOwners x = new PageOwners();
            x.begin(n);
            for (int node = 1; node < n; node++) {
                forceGuess(x, node, node == n - 1 ? 1 : node + 1);
            }
            for (int node = 1; node < n; node++) {
                Due.is("guess by force", x.guess(node, 0), node == n - 1 ? 1 : node + 1);
                Due.is("chain of a round", x.chain(node, 0), NONE);
            }
            Due.is("chain of the owner", x.chain(0, 0), 0);
            Due.is("chain of another page", x.chain(n - 1, 1), 1);
            forceGuess(x, n - 1, 0);
            Due.is("chain of no round", x.chain(1, 0), n - 1);
            forceGuess(x, n - 1, n - 1);
            Due.is("chain into one that guesses itself", x.chain(1, 0), NONE);
        }
    }

    private static void forceGuess(PageOwners x, int node, int guess) throws Exception {
        Field all = PageOwners.class.getDeclaredField("all");
        all.setAccessible(true);
        Object here = ((Object[]) all.get(x))[node];
        Field guesses = here.getClass().getDeclaredField("guessOf");
        guesses.setAccessible(true);
        ((int[]) guesses.get(here))[0] = guess;
    }

    // 16

    private static void flyingNoneAndMost() {
        Due.is("flying() at first", new Real().flying(), 0);
        Pages x = mostLetters();
        Due.is("flying() of all calls", x.flying(), 30);
        for (int k = 0; k < 30; k++) {
            Due.is("a call comes", x.deliver(0), 5);
            Due.is("flying()", x.flying(), 30);
        }
        for (int left = 29; left >= 0; left--) {
            Due.is("an answer comes", x.deliver(left), 6);
            Due.is("flying()", x.flying(), left);
        }
        Due.is("deliver once more", x.deliver(0), NONE);
        Due.is("flying()", x.flying(), 0);
        for (int node = 0; node < 6; node++) {
            Due.is("result", x.result(node), 100 + node);
        }
    }

    // 17

    /** A letter of each kind is made in turn, and looked at before it comes. */
    private interface Look {
        void at(Pages x, int kind);
    }

    private static void lookAtEachKind(Look look) {
        Pages x = Scenes.begun(6);
        int[] seen = new int[7];
        // Letters are likely to be used again: later rounds see what the first has left.
        for (int round = 0; round < 9; round++) {
            x.write(0, 0, 0, 70);
            Scenes.calm(x);
            x.read(5, 0, 0);
            lookUntilCalm(x, look, seen);
            x.write(4, 0, 3, 90);
            lookUntilCalm(x, look, seen);
        }
        for (int kind = 1; kind <= 6; kind++) {
            Due.is("kind " + kind + " is seen in all rounds", Math.min(seen[kind], 9), 9);
        }
    }

    private static void lookUntilCalm(Pages x, Look look, int[] seen) {
        for (int k = 0; k < 100 && x.flying() > 0; k++) {
            int kind = x.letter(0, 0);
            look.at(x, kind);
            Due.is("deliver(0)", x.deliver(0), kind);
            seen[kind]++;
        }
    }

    private static void nodeOfALetter() {
        lookAtEachKind((x, kind) -> {
            int asker = kind == 1 ? 5 : kind == 2 ? 4 : NONE;
            Due.is("letter(0, 4) of kind " + kind, x.letter(0, 4), asker);
        });
        // The first node is 0, which is not NONE.
        Pages y = new Real();
        y.read(0, 1, 0);
        Due.is("letter(0, 4) of node 0", y.letter(0, 4), 0);
    }

    private static void copiesOfALetter() {
        lookAtEachKind((x, kind) ->
            Due.is("letter(0, 5) of kind " + kind, x.letter(0, 5), kind == 4 ? 32 : 0));
        Pages none = new Real();
        none.write(1, 0, 0, 1);
        none.deliver(0);
        Due.is("letter(0, 5) without copies", none.letter(0, 5), 0);
        Pages all = Scenes.begun(6);
        for (int node = 1; node < 6; node++) {
            all.read(node, 0, 0);
        }
        Scenes.calm(all);
        all.write(5, 0, 0, 1);
        all.deliver(0);
        Due.is("letter(0, 5) with all copies", all.letter(0, 5), 62);
    }

    private static void letterOfNone() {
        inEachScene((scene, nodes, letters) -> {
            for (int k = 0; k <= 5; k++) {
                int what = k;
                Refused.outside("letter, " + what, scene, 0, letters - 1, NO_LETTER,
                        (x, bad) -> x.letter(bad, what));
            }
            if (letters > 0) {
                Refused.outside("letter 0", scene, 0, 5, NO_LETTER, (x, bad) -> x.letter(0, bad));
                Refused.outside("last letter", scene, 0, 5, NO_LETTER,
                        (x, bad) -> x.letter(letters - 1, bad));
            }
            Refused.bothOutside("letter", scene, letters - 1, 5, NO_LETTER,
                    (x, a, b) -> x.letter(a, b));
        });
        Pages x = mostLetters();
        Due.is("letter(0, 0)", x.letter(0, 0), 5);
        Due.is("letter(29, 0)", x.letter(29, 0), 5);
        Due.is("letter(29, 5)", x.letter(29, 5), 0);
        Pages y = new Real();
        y.read(1, 0, 0);
        Due.is("letter(0, 0)", y.letter(0, 0), 1);
        y.deliver(0);
        y.deliver(0);
        Due.is("letter(0, 0) when it has come", y.letter(0, 0), NO_LETTER);
        Pages z = mostLetters();
        z.begin(4);
        Due.is("letter(0, 0) behind begin", z.letter(0, 0), NO_LETTER);
    }

    // 18

    private static void wordsOfALetter() {
        Pages x = new Real();
        for (int word = 0; word < 4; word++) {
            x.write(3, 7, word, word == 3 ? Long.MIN_VALUE : -1 - word);
        }
        x.read(0, 7, 0);
        x.deliver(0);
        x.write(1, 7, 0, 4);
        x.deliver(1);
        for (int i = 0; i <= 1; i++) {
            Due.is("kind", x.letter(i, 0), 3 + i);
            Due.is("the first word", x.letterWord(i, 0), -1);
            Due.is("the second word", x.letterWord(i, 1), -2);
            Due.is("the third word", x.letterWord(i, 2), -3);
            Due.is("the last word", x.letterWord(i, 3), Long.MIN_VALUE);
        }
    }

    private static void letterWordOfNone() {
        lookAtEachKind((x, kind) -> {
            boolean hasWords = kind == 3 || kind == 4;
            Due.is("letterWord(0, 0) of kind " + kind, x.letterWord(0, 0), hasWords ? 70 : 0);
            for (int bad : Refused.outside(0, 3)) {
                Due.is("letterWord(0, " + bad + ")", x.letterWord(0, bad), 0);
            }
        });
        Refused.Scene given = EdgesOfPromises::twoPagesOnTheirWay;
        for (int k = 0; k <= 3; k++) {
            int word = k;
            Refused.outside("word " + word + " of letter", given, 0, 1, 0,
                    (x, bad) -> x.letterWord(bad, word));
            Due.is("word of the last letter", given.make().letterWord(1, word), 80 + word);
        }
        Refused.outside("word of the first letter", given, 0, 3, 0,
                (x, bad) -> x.letterWord(0, bad));
        Refused.outside("word of the last letter", given, 0, 3, 0,
                (x, bad) -> x.letterWord(1, bad));
        Refused.bothOutside("letterWord", given, 1, 3, 0, (x, a, b) -> x.letterWord(a, b));
        inEachScene((scene, nodes, letters) ->
            Refused.outside("letterWord", scene, 0, letters - 1, 0,
                    (x, bad) -> x.letterWord(bad, 0)));
        Pages gone = given.make();
        gone.deliver(1);
        Due.is("word of a letter that has come", gone.letterWord(1, 0), 0);
    }

    private static Pages twoPagesOnTheirWay() {
        Pages x = new Real();
        for (int word = 0; word < 4; word++) {
            x.write(2, 2, word, 80 + word);
        }
        x.read(0, 2, 0);
        x.deliver(0);
        x.write(1, 2, 0, 4);
        x.deliver(1);
        return x;
    }

    // 19

    private static void dueCounts(Pages x, int... counts) {
        for (int what = 0; what < counts.length; what++) {
            Due.is("count(" + what + ")", x.count(what), counts[what]);
        }
    }

    private static void countFirstAndLast() {
        for (int n = 2; n <= 6; n++) {
            dueCounts(Scenes.begun(n), n, 0, 0, 0, 0, 0, 0, 0);
        }
        Pages x = mostLetters();
        dueCounts(x, 6, 90, 0, 30, 0, 30, 36, 6);
        // What is refused is not counted.
        x.read(0, 0, 0);
        x.write(6, 0, 0, 1);
        x.deliver(30);
        x.begin(7);
        dueCounts(x, 6, 90, 0, 30, 0, 30, 36, 6);
        Scenes.calm(x);
        dueCounts(x, 6, 120, 0, 30, 0, 30, 42, 6);
        Pages y = Scenes.ownedByOne();
        dueCounts(y, 4, 2, 0, 0, 1, 0, 1, 0);
        y.read(2, 0, 0);
        y.deliver(0);
        dueCounts(y, 4, 4, 1, 0, 1, 0, 1, 0);
    }

    private static void countAtOnce() {
        Pages x = Scenes.readByAll();
        dueCounts(x, 4, 6, 0, 3, 0, 0, 4, 1);
        x.read(3, 0, 0);
        Due.is("at once: a read with a copy", x.count(7), 2);
        x.write(3, 3, 0, 1);
        Due.is("at once: a write of the owner", x.count(7), 3);
        x.write(3, 2, 0, 1);
        Scenes.calm(x);
        Due.is("not at once: a page without copies that was waited for", x.count(7), 3);
        x.write(0, 0, 0, 1);
        Scenes.calm(x);
        Due.is("not at once: an owner that called back", x.count(7), 3);
        Due.is("things done", x.count(6), 8);
    }

    private static void countOfNone() {
        inEachScene((scene, nodes, letters) ->
            Refused.outside("count", scene, 0, 7, NONE, (x, bad) -> x.count(bad)));
    }
}
