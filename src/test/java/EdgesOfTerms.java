/**
 * The edges that the document names in "Terms" and before it: a test for each sentence, and
 * before it on its line the sentence's words.
 */
public final class EdgesOfTerms {
    private static final int NONE = PageOwners.NONE;

    public static void main(String[] args) {
        by("at most 512 calls"); callsUpToTheLast();
        by("NODES 0 .. n - 1 (2 .. 6)"); firstAndLastNode();
        by("PAGES 0 .. 7"); firstAndLastPage();
        by("of 4 WORDS"); wordsAreApart();
        by("(64 bits, 0 at first)"); wordsOfAllBits();
        by("nodes that may read it, itself not"); copiesFromNoneToAll();
        by("node p modulo n owns page p"); pagesGoRoundTheNodes();
        by("all others have access 0, and guess that"); othersAtFirst();
        by("A node has one thing at hand at most"); oneThingAtHand();
        by("with access 1 or 2 it is done at once"); readByAccess();
        by("with access 2 it is done at once"); writeByAccess();
        by("CALL goes to all copies, by numbers"); callsByNumbers();
        by("there are no copies any more"); noCopiesAnyMore();
        by("at once, if there were no copies"); atOnceWithoutCopies();
        by("they come in any order, each once"); anyOrderEachOnce();
        by("a node that waits for that page to write"); queuedBeforeThePage();
        by("or for answers of its copies"); queuedBeforeTheAnswers();
        by("behind its queue"); queueFromEmptyToFull();
        by("Another one that is no owner sends it on to its guess"); sentOnToTheGuess();
        by("for ASK WRITE its guess is the asking node then"); guessOfWhoSendsOn();
        by("the asking node is a copy, access is 1"); copyOfTheOwner();
        by("it is no owner any more"); noOwnerAnyMore();
        by("its guess is who sent it"); guessOfTheReader();
        by("or 0 if a CALL for that page came while it waited"); calledWhileItWaited();
        by("words and copies (but itself)"); copiesButItself();
        by("access is 0, the guess is who sent it; 6 ANSWER goes back"); calledBack();
        by("keeps in mind that it came"); keptInMindForOneRead();
        by("one less to wait for"); answersDownToNone();
        by("When a write is done for which the node waited"); queueStandsUntilDone();
        by("the queue of that page is gone over"); queueOfThatPage();
        by("each asking in it, in order"); queueInOrder();
        by("the queue being empty"); queueIsEmptyMeanwhile();
        Due.end("edges of the terms");
    }

    private static void by(String words) {
        Due.by("terms", words);
    }

    /** Calls 1 to 511 are writes; the 512th tells of them. */
    private static void callsUpToTheLast() {
        for (int last = 0; last <= 3; last++) {
            Pages x = new Real();
            for (int k = 1; k <= 511; k++) {
                Due.is("write " + k, x.write(3, 7, k % 4, -k), 1);
            }
            long got = last == 0 ? x.count(6) : last == 1 ? x.at(3, 4)
                    : last == 2 ? -x.result(3) : -x.word(3, 7, 511 % 4);
            Due.is("the 512th call", got, 511);
        }
        Pages y = new Real();
        for (int k = 1; k <= 170; k++) {
            Due.is("write " + k, y.write(k % 2, 0, 0, k), 0);
            Due.is("its asking", y.deliver(0), 2);
            Due.is("its page", y.deliver(0), 4);
        }
        Due.is("the 511th call", y.count(1), 340);
        Due.is("the 512th call", y.count(4), 170);
    }

    private static void firstAndLastNode() {
        for (int n = 2; n <= 6; n++) {
            Pages x = Scenes.used(n);
            for (int node : new int[] {-1, 0, n - 1, n}) {
                boolean there = node == 0 || node == n - 1;
                String of = " of node " + node + " of " + n;
                Due.is("waits" + of, x.waits(node) >= 0 ? 1 : 0, there ? 1 : 0);
                Due.is("at" + of, x.at(node, 4) >= 1 ? 1 : 0, there ? 1 : 0);
                Due.is("result" + of, x.result(node) != 0 ? 1 : 0, there ? 1 : 0);
                Due.is("access" + of, x.access(node, 7) >= 0 ? 1 : 0, there ? 1 : 0);
                Due.is("guess" + of, x.guess(node, 7) >= 0 ? 1 : 0, there ? 1 : 0);
                Due.is("copies" + of, x.copies(node, 7) >= 0 ? 1 : 0, there ? 1 : 0);
                Due.is("queue" + of, x.queue(node, 7) >= 0 ? 1 : 0, there ? 1 : 0);
                Due.is("chain" + of, x.chain(node, 7) >= 0 ? 1 : 0, there ? 1 : 0);
                Pages y = Scenes.begun(n);
                Due.is("read" + of, y.read(node, 0, 0) >= 0 ? 1 : 0, there ? 1 : 0);
                Pages z = Scenes.begun(n);
                Due.is("write" + of, z.write(node, 0, 0, 1) >= 0 ? 1 : 0, there ? 1 : 0);
                Scenes.calm(z);
                Due.is("word" + of, z.word(node, 0, 0), there ? 1 : 0);
            }
        }
    }

    private static void firstAndLastPage() {
        for (int page : new int[] {-1, 0, 7, 8}) {
            boolean there = page == 0 || page == 7;
            String of = " of page " + page;
            Pages x = Scenes.begun(6);
            Due.is("write" + of, x.write(5, page, 3, 9) >= 0 ? 1 : 0, there ? 1 : 0);
            Scenes.calm(x);
            Due.is("owner" + of, x.owner(page), there ? 5 : NONE);
            Due.is("access" + of, x.access(5, page), there ? 2 : NONE);
            Due.is("guess" + of, x.guess(5, page), there ? 5 : NONE);
            Due.is("word" + of, x.word(5, page, 3), there ? 9 : 0);
            Due.is("read" + of, x.read(2, page, 3) >= 0 ? 1 : 0, there ? 1 : 0);
            Scenes.calm(x);
            Due.is("copies" + of, x.copies(5, page), there ? 4 : NONE);
            Due.is("queue" + of, x.queue(5, page), there ? 0 : NONE);
            Due.is("chain" + of, x.chain(2, page), there ? 1 : NONE);
        }
    }

    /** Every word of every page is written once, and only that one is another then. */
    private static void wordsAreApart() {
        for (int page = 0; page < 8; page++) {
            for (int word = 0; word < 4; word++) {
                Pages x = Scenes.begun(6);
                x.write(5, page, word, 9);
                Scenes.calm(x);
                Due.is("result(5)", x.result(5), 9);
                for (int k = 0; k < 32; k++) {
                    Due.is("word(5, " + k / 4 + ", " + k % 4 + ")", x.word(5, k / 4, k % 4),
                            k == page * 4 + word ? 9 : 0);
                }
            }
        }
        Pages x = new Real();
        Due.is("write of word 4", x.write(0, 0, 4, 1), NONE);
        Due.is("write of word -1", x.write(0, 0, -1, 1), NONE);
        Due.is("write of word 3", x.write(0, 0, 3, 1), 1);
        Due.is("write of word 0", x.write(0, 0, 0, 1), 1);
    }

    private static void wordsOfAllBits() {
        Pages x = Scenes.begun(6);
        for (int k = 0; k < 6 * 32; k++) {
            Due.is("a word at first", x.word(k / 32, k / 4 % 8, k % 4), 0);
        }
        long[] values = {Long.MIN_VALUE, Long.MAX_VALUE, -1L, 1L, 1L << 31, 1L << 32,
            (1L << 32) - 1, 0x123456789abcdef0L};
        for (long v : values) {
            x.begin(6);
            x.write(0, 0, 0, v);
            Due.is("result of the writer", x.result(0), v);
            x.read(1, 0, 0);
            x.deliver(0);
            Due.is("word of a page to read", x.letterWord(0, 0), v);
            x.deliver(0);
            Due.is("result of the reader", x.result(1), v);
            Due.is("word of the reader", x.word(1, 0, 0), v);
            x.write(2, 0, 1, ~v);
            x.deliver(0);
            Due.is("word of a page to write", x.letterWord(0, 0), v);
            Scenes.calm(x);
            Due.is("word of the new owner", x.word(2, 0, 0), v);
            Due.is("word that waited to be written", x.word(2, 0, 1), ~v);
            Due.is("result of one that waited", x.result(2), ~v);
        }
    }

    private static void copiesFromNoneToAll() {
        for (int owner = 0; owner < 6; owner++) {
            Pages x = Scenes.begun(6);
            int bits = 0;
            Due.is("copies at first", x.copies(owner, owner), bits);
            for (int node = 0; node < 6; node++) {
                x.read(node, owner, 0);
                Scenes.calm(x);
                bits += node == owner ? 0 : (int) Math.pow(2, node);
                Due.is("copies behind a read of node " + node, x.copies(owner, owner), bits);
            }
            Due.is("all copies, itself not", bits, 63 - (int) Math.pow(2, owner));
        }
    }

    private static void pagesGoRoundTheNodes() {
        String[] owners = {"01010101", "01201201", "01230123", "01234012", "01234501"};
        for (int n = 2; n <= 6; n++) {
            Pages x = Scenes.begun(n);
            for (int page = 0; page < 8; page++) {
                int owner = owners[n - 2].charAt(page) - '0';
                Due.is("owner(" + page + ") of " + n, x.owner(page), owner);
                Due.is("access of the owner", x.access(owner, page), 2);
                Due.is("guess of the owner", x.guess(owner, page), owner);
                Due.is("copies of the owner", x.copies(owner, page), 0);
            }
        }
    }

    private static void othersAtFirst() {
        for (int n = 2; n <= 6; n++) {
            Pages x = Scenes.begun(n);
            for (int node = 0; node < n; node++) {
                for (int page = 0; page < 8; page++) {
                    int owner = x.owner(page);
                    Due.is("access", x.access(node, page), node == owner ? 2 : 0);
                    Due.is("guess", x.guess(node, page), owner);
                    Due.is("copies", x.copies(node, page), 0);
                    Due.is("queue", x.queue(node, page), 0);
                }
            }
        }
    }

    /** While it waits for a letter nothing else is taken, not even of a page at hand. */
    private static void oneThingAtHand() {
        refusedWhileItWaits("for a page to read", 1, EdgesOfTerms::waitsToRead);
        refusedWhileItWaits("for a page to write", 2, EdgesOfTerms::waitsToWrite);
        refusedWhileItWaits("for answers", 3, EdgesOfTerms::waitsForAnswers);
        Pages x = waitsForAnswers();
        Scenes.calm(x);
        Due.is("write when the last answer came", x.write(0, 4, 0, 1), 1);
        Pages y = waitsToRead();
        Scenes.calm(y);
        Due.is("read when the page came", y.read(0, 1, 0), 1);
        Pages z = waitsToWrite();
        Scenes.calm(z);
        Due.is("write when the page came", z.write(0, 1, 0, 1), 1);
        Due.is("write behind one done at once", z.write(0, 1, 0, 2), 1);
    }

    private static void refusedWhileItWaits(String what, int waits, Refused.Scene scene) {
        Due.is("waits(0)", scene.make().waits(0), waits);
        for (int page = 0; page < 8; page++) {
            int p = page;
            Refused.is("read while it waits " + what, scene, NONE, x -> x.read(0, p, 0));
            Refused.is("write while it waits " + what, scene, NONE, x -> x.write(0, p, 3, 8));
        }
    }

    private static Pages waitsToRead() {
        Pages x = new Real();
        Due.is("read", x.read(0, 1, 2), 0);
        return x;
    }

    private static Pages waitsToWrite() {
        Pages x = new Real();
        Due.is("write", x.write(0, 1, 2, 3), 0);
        return x;
    }

    private static Pages waitsForAnswers() {
        Pages x = Scenes.readByAll();
        Due.is("write", x.write(0, 0, 2, 3), 0);
        return x;
    }

    private static void readByAccess() {
        Pages x = Scenes.readByAll();
        Due.is("access 2", x.access(1, 1), 2);
        Due.is("read with access 2", x.read(1, 1, 0), 1);
        Due.is("access 1 of an owner", x.access(0, 0), 1);
        Due.is("read with access 1, an owner", x.read(0, 0, 0), 1);
        Due.is("access 1 of a copy", x.access(1, 0), 1);
        Due.is("read with access 1, a copy", x.read(1, 0, 0), 1);
        Due.is("flying()", x.flying(), 0);
        Due.is("access stays", x.access(1, 1) * 100 + x.access(0, 0) * 10 + x.access(1, 0), 211);
        Due.is("access 0", x.access(1, 2), 0);
        Due.is("read with access 0", x.read(1, 2, 0), 0);
        Due.is("an asking to read", x.letter(0, 0), 1);
        Due.is("waits(1)", x.waits(1), 1);
        Due.is("to the node guessed", x.letter(0, 2), x.guess(1, 2));
    }

    private static void writeByAccess() {
        Pages x = Scenes.readByAll();
        Due.is("write with access 2", x.write(1, 1, 0, 7), 1);
        Due.is("access stays", x.access(1, 1), 2);
        Due.is("flying()", x.flying(), 0);
        Due.is("write with access 1, an owner", x.write(0, 0, 0, 7), 0);
        Due.is("it calls back", x.letter(0, 0) * 10 + x.waits(0), 53);
        Pages y = Scenes.readByAll();
        Due.is("write with access 1, a copy", y.write(1, 0, 0, 7), 0);
        Due.is("it asks", y.letter(0, 0) * 10 + y.waits(1), 22);
        Due.is("to the node guessed", y.letter(0, 2), 0);
        Due.is("write with access 0", y.write(2, 3, 0, 7), 0);
        Due.is("it asks", y.letter(1, 0) * 10 + y.waits(2), 22);
        Due.is("to the node guessed", y.letter(1, 2), 3);
    }

    /** Node 3 owns page 3 of six nodes; these read it, in this order. */
    private static Pages readBy(int... readers) {
        Pages x = Scenes.begun(6);
        for (int node : readers) {
            x.read(node, 3, 0);
            Scenes.calm(x);
        }
        return x;
    }

    private static void callsByNumbers() {
        int[][] readers = {{0}, {5}, {5, 0}, {4, 2}, {5, 4, 2, 1, 0}, {2, 0, 5, 1, 4}};
        String[] called = {"0", "5", "05", "24", "01245", "01245"};
        for (int k = 0; k < readers.length; k++) {
            Pages x = readBy(readers[k]);
            Due.is("write", x.write(3, 3, 0, 8), 0);
            Due.is("letters", x.flying(), called[k].length());
            Due.is("answers to wait for", x.at(3, 3), called[k].length());
            for (int i = 0; i < called[k].length(); i++) {
                Due.is("kind", x.letter(i, 0), 5);
                Due.is("from", x.letter(i, 1), 3);
                Due.is("to", x.letter(i, 2), called[k].charAt(i) - '0');
                Due.is("page", x.letter(i, 3), 3);
            }
        }
    }

    private static void noCopiesAnyMore() {
        for (int[] readers : new int[][] {{0}, {5}, {0, 1, 2, 4, 5}}) {
            Pages x = readBy(readers);
            x.write(3, 3, 0, 8);
            Due.is("copies as soon as they are called", x.copies(3, 3), 0);
            Scenes.calm(x);
            Due.is("copies behind it", x.copies(3, 3), 0);
            Due.is("the next write is done at once", x.write(3, 3, 0, 9), 1);
            Due.is("and calls none", x.flying(), 0);
        }
        Pages y = readBy(1, 2);
        y.write(0, 3, 0, 8);
        y.deliver(0);
        y.deliver(0);
        Due.is("waits(0)", y.waits(0), 3);
        Due.is("copies of who got the page", y.copies(0, 3), 0);
    }

    private static void atOnceWithoutCopies() {
        Pages none = Scenes.begun(6);
        none.write(2, 3, 1, 8);
        none.deliver(0);
        Due.is("copies in the letter", none.letter(0, 5), 0);
        none.deliver(0);
        dueWritten("no copies", none);
        Pages itself = readBy(2);
        itself.write(2, 3, 1, 8);
        itself.deliver(0);
        Due.is("copies in the letter", itself.letter(0, 5), 4);
        itself.deliver(0);
        dueWritten("no copies but itself", itself);
        Pages one = readBy(2, 5);
        one.write(2, 3, 1, 8);
        one.deliver(0);
        one.deliver(0);
        Due.is("waits(2) for one copy", one.waits(2), 3);
        Due.is("at(2, 3)", one.at(2, 3), 1);
        Due.is("access(2, 3)", one.access(2, 3), 1);
        Due.is("word before it is done", one.word(2, 3, 1), 0);
        Due.is("done", one.at(2, 4), 1);
    }

    private static void dueWritten(String what, Pages x) {
        Due.is(what + ": waits(2)", x.waits(2), 0);
        Due.is(what + ": answers", x.at(2, 3), 0);
        Due.is(what + ": access(2, 3)", x.access(2, 3), 2);
        Due.is(what + ": word(2, 3, 1)", x.word(2, 3, 1), 8);
        Due.is(what + ": result(2)", x.result(2), 8);
        Due.is(what + ": flying()", x.flying(), 0);
        Due.is(what + ": calls", x.count(5), 0);
    }

    /** Askings of three nodes for three pages, in each of the six orders. */
    private static void anyOrderEachOnce() {
        for (int first = 0; first < 3; first++) {
            for (int second = 0; second < 2; second++) {
                Pages x = Scenes.begun(6);
                x.write(3, 0, 0, 30);
                x.read(4, 1, 0);
                x.write(5, 2, 0, 50);
                int[] pages = {0, 1, 2};
                int page = x.letter(first, 3);
                Due.is("page", page, pages[first]);
                x.deliver(first);
                Due.is("its page is on its way, last", x.letter(2, 3), page);
                Due.is("flying()", x.flying(), 3);
                x.deliver(second);
                x.deliver(0);
                for (int left = 3; left > 0; left--) {
                    Due.is("flying()", x.flying(), left);
                    Due.is("a page comes", x.deliver(left - 1) >= 3 ? 1 : 0, 1);
                }
                Due.is("deliver once more", x.deliver(0), NONE);
                Due.is("owners", x.owner(0) * 100 + x.owner(1) * 10 + x.owner(2), 315);
                Due.is("things done", x.count(6), 3);
            }
        }
    }

    private static void queuedBeforeThePage() {
        Pages x = Scenes.ownedByOne();
        x.write(0, 0, 0, 5);
        x.read(2, 0, 0);
        Due.is("waits(0)", x.waits(0), 2);
        Due.is("an asking to read comes", x.deliver(1), 1);
        Due.is("queue(0, 0)", x.queue(0, 0), 1);
        x.write(3, 0, 0, 5);
        Due.is("an asking to write comes", x.deliver(1), 2);
        Due.is("queue(0, 0)", x.queue(0, 0), 2);
        Due.is("nothing is sent", x.flying(), 1);
        Due.is("guess stays", x.guess(0, 0), 1);
        // Of another page that it owns, and of one that it does not own, it has no queue.
        Pages y = new Real();
        y.write(2, 4, 0, 1);
        Scenes.calm(y);
        y.write(0, 1, 0, 5);
        y.read(3, 0, 0);
        y.read(1, 4, 0);
        y.deliver(1);
        Due.is("queue(0, 0) of a page it owns", y.queue(0, 0), 0);
        Due.is("it is given", y.letter(2, 0), 3);
        y.deliver(1);
        Due.is("queue(0, 4) of a page it does not own", y.queue(0, 4), 0);
        Due.is("it is sent on", y.letter(2, 0) * 10 + y.letter(2, 2), 12);
        // One that waits for the page to read has none either.
        Pages z = Scenes.ownedByOne();
        z.read(0, 0, 0);
        z.read(2, 0, 0);
        z.deliver(1);
        Due.is("queue(0, 0) of one that waits to read", z.queue(0, 0), 0);
        Due.is("it is sent on", z.letter(1, 0) * 10 + z.letter(1, 2), 11);
    }

    private static void queuedBeforeTheAnswers() {
        Pages x = readBy(0);
        x.write(3, 3, 0, 5);
        x.read(1, 3, 0);
        Due.is("an asking to read comes", x.deliver(1), 1);
        Due.is("queue(3, 3)", x.queue(3, 3), 1);
        x.write(2, 3, 0, 5);
        Due.is("an asking to write comes", x.deliver(1), 2);
        Due.is("queue(3, 3)", x.queue(3, 3), 2);
        Due.is("nothing is sent", x.flying(), 1);
        Due.is("owner(3)", x.owner(3), 3);
        Due.is("copies(3, 3)", x.copies(3, 3), 0);
        otherPagesBeforeTheAnswers();
    }

    /** Node 1 waits for answers of page 1, owns page 7 too, and has given away page 2. */
    private static void otherPagesBeforeTheAnswers() {
        Pages x = Scenes.begun(6);
        x.read(0, 1, 0);
        x.write(1, 2, 0, 5);
        Scenes.calm(x);
        x.read(5, 2, 0);
        x.deliver(0);
        x.write(4, 2, 0, 6);
        x.deliver(1);
        Due.is("page 2 goes on to node 4", x.deliver(1) * 10 + x.deliver(1), 24);
        x.write(1, 1, 0, 5);
        x.read(3, 7, 0);
        Due.is("waits(1)", x.waits(1), 3);
        Due.is("an asking for page 2 comes", x.letter(0, 2) * 10 + x.deliver(0), 11);
        Due.is("queue(1, 2)", x.queue(1, 2), 0);
        Due.is("it is sent on", x.letter(x.flying() - 1, 0) * 10 + x.letter(x.flying() - 1, 2), 14);
        Due.is("an asking for page 7 comes", x.letter(1, 3) * 10 + x.deliver(1), 71);
        Due.is("queue(1, 7)", x.queue(1, 7), 0);
        Due.is("it is given", x.letter(x.flying() - 1, 0) * 10 + x.letter(x.flying() - 1, 2), 33);
    }

    /** Node 1 of six waits for page 0; the five others, the old owner too, ask it. */
    private static void queueFromEmptyToFull() {
        Pages x = Scenes.begun(6);
        x.write(1, 0, 0, 1);
        x.deliver(0);
        int[] order = {0, 5, 4, 3, 2};
        for (int k = 0; k < 5; k++) {
            Due.is("queue(1, 0)", x.queue(1, 0), k);
            x.read(order[k], 0, 0);
            if (order[k] != 0) {
                Due.is("sent on by node 0", x.deliver(1), 1);
            }
            Due.is("deliver(1)", x.deliver(1), 1);
        }
        Due.is("queue(1, 0) with all in it", x.queue(1, 0), 5);
        Due.is("flying()", x.flying(), 1);
        Due.is("deliver the page", x.deliver(0), 4);
        Due.is("queue(1, 0)", x.queue(1, 0), 0);
        Due.is("copies(1, 0)", x.copies(1, 0), 61);
        Due.is("flying()", x.flying(), 5);
        for (int k = 0; k < 5; k++) {
            Due.is("to, in order", x.letter(k, 2), order[k]);
            Due.is("word", x.letterWord(k, 0), 1);
        }
    }

    private static void sentOnToTheGuess() {
        Pages x = Scenes.ownedByOne();
        x.read(2, 0, 0);
        x.deliver(0);
        Due.is("kind", x.letter(0, 0), 1);
        Due.is("from who sends it on", x.letter(0, 1), 0);
        Due.is("to the guess", x.letter(0, 2), x.guess(0, 0));
        Due.is("who asks first", x.letter(0, 4), 2);
        Due.is("sent on", x.count(2), 1);
        // An owner sends nothing on.
        x.deliver(0);
        Due.is("given", x.letter(0, 0), 3);
        Due.is("sent on", x.count(2), 1);
        // One with a copy is no owner: it sends on too.
        Pages y = Scenes.ownedByOne();
        y.read(0, 0, 0);
        Scenes.calm(y);
        y.read(3, 0, 0);
        y.deliver(0);
        Due.is("access of who sends on", y.access(0, 0), 1);
        Due.is("sent on by one with a copy", y.letter(0, 0) * 10 + y.letter(0, 2), 11);
        Due.is("its access stays", y.access(0, 0), 1);
    }

    private static void guessOfWhoSendsOn() {
        Pages x = Scenes.ownedByOne();
        x.read(2, 0, 0);
        x.deliver(0);
        Due.is("guess behind an asking to read", x.guess(0, 0), 1);
        x.write(3, 0, 0, 1);
        x.deliver(1);
        Due.is("guess behind an asking to write", x.guess(0, 0), 3);
        Due.is("sent to the guess before", x.letter(1, 2), 1);
        Due.is("who asks first", x.letter(1, 4), 3);
    }

    private static void copyOfTheOwner() {
        Pages x = Scenes.begun(6);
        x.read(0, 3, 0);
        Due.is("access before it comes", x.access(3, 3), 2);
        x.deliver(0);
        Due.is("access of the owner", x.access(3, 3), 1);
        Due.is("copies", x.copies(3, 3), 1);
        x.read(5, 3, 0);
        x.deliver(1);
        Due.is("access of the owner", x.access(3, 3), 1);
        Due.is("copies", x.copies(3, 3), 33);
        Due.is("owner(3)", x.owner(3), 3);
        Due.is("guess(3, 3)", x.guess(3, 3), 3);
        Due.is("to who asked", x.letter(0, 2) * 10 + x.letter(1, 2), 5);
        Due.is("access of who asked, before it comes", x.access(0, 3), 0);
    }

    private static void noOwnerAnyMore() {
        Pages x = readBy(1);
        x.write(0, 3, 0, 1);
        Due.is("owner(3) before", x.owner(3), 3);
        x.deliver(0);
        Due.is("owner(3)", x.owner(3), NONE);
        Due.is("access(3, 3)", x.access(3, 3), 0);
        Due.is("guess(3, 3)", x.guess(3, 3), 0);
        Due.is("copies(3, 3)", x.copies(3, 3), 0);
        Due.is("the page comes from it", x.letter(0, 1), 3);
        Due.is("and goes to who asked", x.letter(0, 2), 0);
        Due.is("access of the copy", x.access(1, 3), 1);
        Due.is("a read of who gave it waits", x.read(3, 3, 0), 0);
    }

    /** The page was given away behind the reader's: the guess is the sender all the same. */
    private static void guessOfTheReader() {
        Pages x = Scenes.ownedByOne();
        x.read(2, 0, 0);
        x.deliver(0);
        Due.is("guess while it waits", x.guess(2, 0), 0);
        x.deliver(0);
        x.write(3, 0, 0, 1);
        x.deliver(1);
        x.deliver(1);
        Due.is("owner(0)", x.owner(0), NONE);
        Due.is("deliver(0)", x.deliver(0), 3);
        Due.is("guess of the reader", x.guess(2, 0), 1);
    }

    /** Node 0 has page 1 on its way to read; its owner, 1, has called it back. */
    private static Pages calledBackOnItsWay() {
        Pages x = new Real();
        x.write(1, 1, 0, 5);
        x.read(0, 1, 0);
        x.deliver(0);
        x.write(1, 1, 0, 6);
        Due.is("the page", x.letter(0, 0), 3);
        Due.is("the call", x.letter(1, 0), 5);
        return x;
    }

    private static void calledWhileItWaited() {
        Pages x = calledBackOnItsWay();
        x.deliver(1);
        Due.is("access while it waits", x.access(0, 1), 0);
        Due.is("waits(0)", x.waits(0), 1);
        Due.is("the page comes behind the call", x.deliver(0), 3);
        Due.is("access(0, 1)", x.access(0, 1), 0);
        Due.is("the read is done", x.waits(0), 0);
        Due.is("result(0)", x.result(0), 5);
        Due.is("guess(0, 1)", x.guess(0, 1), 1);
        Pages y = calledBackOnItsWay();
        Due.is("the page comes before the call", y.deliver(0), 3);
        Due.is("access(0, 1)", y.access(0, 1), 1);
        Due.is("result(0)", y.result(0), 5);
        Due.is("the call", y.deliver(0), 5);
        Due.is("access(0, 1)", y.access(0, 1), 0);
        // A call for another page does not count.
        Pages z = Scenes.readByAll();
        z.read(1, 2, 0);
        z.write(0, 0, 0, 1);
        Due.is("the call for page 0", z.deliver(1) * 10 + z.letter(0, 3), 52);
        Scenes.calm(z);
        Due.is("access(1, 2)", z.access(1, 2), 1);
        Due.is("access(1, 0)", z.access(1, 0), 0);
    }

    private static void copiesButItself() {
        int[][] readers = {{}, {2}, {0, 2}, {0, 1}, {0, 1, 2, 4, 5}};
        int[] sent = {0, 4, 5, 3, 55};
        int[] called = {0, 0, 1, 2, 4};
        for (int k = 0; k < readers.length; k++) {
            Pages x = readBy(readers[k]);
            x.write(2, 3, 0, 8);
            x.deliver(0);
            Due.is("copies in the letter", x.letter(0, 5), sent[k]);
            x.deliver(0);
            Due.is("calls", x.flying(), called[k]);
            for (int i = 0; i < called[k]; i++) {
                Due.is("a call goes to itself", x.letter(i, 2) == 2 ? 1 : 0, 0);
            }
            Due.is("who gave the page is no copy", x.access(3, 3), 0);
            Scenes.calm(x);
            Due.is("access(2, 3)", x.access(2, 3), 2);
        }
    }

    /** Node 0 calls back what nodes 1 and 5 had of its old owner, 3. */
    private static void calledBack() {
        Pages x = readBy(5, 1);
        x.write(0, 3, 0, 8);
        x.deliver(0);
        x.deliver(0);
        for (int node : new int[] {1, 5}) {
            Due.is("access before the call", x.access(node, 3), 1);
            Due.is("guess before the call", x.guess(node, 3), 3);
            Due.is("the call", x.deliver(0), 5);
            Due.is("access", x.access(node, 3), 0);
            Due.is("guess", x.guess(node, 3), 0);
            Due.is("an answer", x.letter(1, 0), 6);
            Due.is("from", x.letter(1, 1), node);
            Due.is("to", x.letter(1, 2), 0);
            Due.is("page", x.letter(1, 3), 3);
        }
        Due.is("access of one that is no copy", x.access(2, 3), 0);
        Due.is("guess of one that is no copy", x.guess(2, 3), 3);
    }

    private static void keptInMindForOneRead() {
        Pages x = calledBackOnItsWay();
        x.deliver(1);
        Scenes.calm(x);
        Due.is("the next read waits", x.read(0, 1, 0), 0);
        Scenes.calm(x);
        Due.is("and stays", x.access(0, 1), 1);
        // One that waits to write keeps nothing in mind.
        Pages y = Scenes.readByAll();
        y.write(1, 0, 0, 1);
        y.write(0, 0, 0, 2);
        Due.is("the call", y.deliver(1), 5);
        Due.is("access(1, 0)", y.access(1, 0), 0);
        Due.is("guess(1, 0)", y.guess(1, 0), 0);
        Scenes.calm(y);
        Due.is("access of who wrote", y.access(1, 0), 2);
        Due.is("result(1)", y.result(1), 1);
        y.read(1, 3, 0);
        Scenes.calm(y);
        Due.is("access of its next read", y.access(1, 3), 1);
    }

    private static void answersDownToNone() {
        Pages x = readBy(0, 1, 2, 4, 5);
        x.write(3, 3, 0, 8);
        for (int k = 0; k < 5; k++) {
            Due.is("a call", x.deliver(0), 5);
            Due.is("none less by a call", x.at(3, 3), 5);
        }
        for (int left = 4; left >= 1; left--) {
            Due.is("an answer", x.deliver(left), 6);
            Due.is("answers", x.at(3, 3), left);
            Due.is("waits(3)", x.waits(3), 3);
            Due.is("access(3, 3)", x.access(3, 3), 1);
            Due.is("word(3, 3, 0)", x.word(3, 3, 0), 0);
        }
        Due.is("the last answer", x.deliver(0), 6);
        Due.is("answers", x.at(3, 3), 0);
        Due.is("waits(3)", x.waits(3), 0);
        Due.is("access(3, 3)", x.access(3, 3), 2);
        Due.is("word(3, 3, 0)", x.word(3, 3, 0), 8);
    }

    private static void queueStandsUntilDone() {
        Pages x = readBy(0, 1);
        x.write(2, 3, 0, 8);
        x.deliver(0);
        x.read(4, 3, 0);
        x.deliver(1);
        x.deliver(1);
        Due.is("queue before the page", x.queue(2, 3), 1);
        Due.is("the page", x.deliver(0), 4);
        Due.is("queue before the answers", x.queue(2, 3), 1);
        x.read(5, 3, 0);
        x.deliver(2);
        x.deliver(2);
        Due.is("queue before the answers", x.queue(2, 3), 2);
        Due.is("calls", x.deliver(0) * 10 + x.deliver(0), 55);
        Due.is("the last answer but one", x.deliver(0), 6);
        Due.is("queue before the last answer", x.queue(2, 3), 2);
        Due.is("the last answer", x.deliver(0), 6);
        Due.is("queue behind it", x.queue(2, 3), 0);
        Due.is("given to both", x.letter(0, 2) * 10 + x.letter(1, 2), 45);
        Due.is("what was written", x.letterWord(0, 0), 8);
    }

    /** A write of node 1 is done for page 1; node 0 still waits for page 2, with a queue. */
    private static void queueOfThatPage() {
        Pages x = Scenes.begun(6);
        x.write(0, 2, 0, 1);
        x.deliver(0);
        x.write(1, 3, 0, 1);
        x.deliver(1);
        x.read(4, 2, 0);
        x.deliver(2);
        x.deliver(2);
        x.read(5, 3, 0);
        x.deliver(2);
        x.deliver(2);
        Due.is("queues", x.queue(0, 2) * 10 + x.queue(1, 3), 11);
        Due.is("page 3 comes", x.letter(1, 3) * 10 + x.deliver(1), 34);
        Due.is("queues", x.queue(0, 2) * 10 + x.queue(1, 3), 10);
        Due.is("page 3 is given", x.letter(1, 0) * 10 + x.letter(1, 3), 33);
        Due.is("flying()", x.flying(), 2);
    }

    private static void queueInOrder() {
        int[][] orders = {{0, 2, 3, 4, 5}, {5, 4, 3, 2, 0}, {3, 0, 5, 2, 4}};
        for (int[] order : orders) {
            Pages x = Scenes.begun(6);
            x.write(1, 1, 0, 7);
            x.read(0, 1, 0);
            Scenes.calm(x);
            x.write(1, 1, 0, 8);
            x.deliver(0);
            for (int node : order) {
                x.read(node, 1, 0);
                Due.is("an asking", x.deliver(1), 1);
            }
            Due.is("queue(1, 1)", x.queue(1, 1), 5);
            Due.is("the answer", x.deliver(0), 6);
            for (int k = 0; k < 5; k++) {
                Due.is("given in order", x.letter(k, 2), order[k]);
            }
        }
    }

    /** In the queue: a write, a write, a read. Both behind the first are sent on, none stays. */
    private static void queueIsEmptyMeanwhile() {
        Pages x = readBy(0);
        x.write(3, 3, 0, 5);
        x.write(1, 3, 0, 6);
        x.write(2, 3, 0, 7);
        x.read(4, 3, 0);
        for (int k = 0; k < 3; k++) {
            x.deliver(1);
        }
        Due.is("queue(3, 3)", x.queue(3, 3), 3);
        Due.is("call and answer", x.deliver(0) * 10 + x.deliver(0), 56);
        Due.is("queue(3, 3)", x.queue(3, 3), 0);
        Due.is("flying()", x.flying(), 3);
        Due.is("the page for the first", x.letter(0, 0) * 10 + x.letter(0, 2), 41);
        Due.is("a write sent on", x.letter(1, 0) * 10 + x.letter(1, 2), 21);
        Due.is("of node", x.letter(1, 4), 2);
        Due.is("a read sent on to the guess of then", x.letter(2, 0) * 10 + x.letter(2, 2), 12);
        Due.is("of node", x.letter(2, 4), 4);
        Due.is("guess(3, 3)", x.guess(3, 3), 2);
        Scenes.calm(x);
        Due.is("owner(3)", x.owner(3), 2);
        Due.is("result(4)", x.result(4), 7);
    }
}
