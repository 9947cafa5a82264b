import java.util.Arrays;

/**
 * Pages that nodes share without a place of their own: each goes from owner to owner as it is
 * written to, copies of it are read until they are called back, and who wants it follows guesses
 * of where it is.
 */
public final class PageOwners {
    public static final int NONE = -1;

    private static final int NO_LETTER = -2;

    private static final int LEAST_NODES = 2;
    private static final int MOST_NODES = 6;
    private static final int NODES_AT_FIRST = 4;
    private static final int PAGES = 8;
    private static final int WORDS = 4;

    private static final int NO_ACCESS = 0;
    private static final int MAY_READ = 1;
    private static final int MAY_WRITE = 2;

    private static final int NOTHING = 0;
    private static final int PAGE_TO_READ = 1;
    private static final int PAGE_TO_WRITE = 2;
    private static final int ANSWERS = 3;

    private static final int ASK_READ = 1;
    private static final int ASK_WRITE = 2;
    private static final int GIVE_READ = 3;
    private static final int GIVE_WRITE = 4;
    private static final int CALL = 5;
    private static final int ANSWER = 6;

    private static final int COUNTS = 8;
    private static final int COUNT_NODES = 0;
    private static final int COUNT_SENT = 1;
    private static final int COUNT_SENT_ON = 2;
    private static final int COUNT_GIVEN_TO_READ = 3;
    private static final int COUNT_GIVEN_TO_WRITE = 4;
    private static final int COUNT_CALLS = 5;
    private static final int COUNT_DONE = 6;
    private static final int COUNT_AT_ONCE = 7;

    private final Node[] all = new Node[MOST_NODES];
    private final Mail mail = new Mail();
    private final int[] counts = new int[COUNTS];
    private int nodes;

    public PageOwners() {
        for (int k = 0; k < MOST_NODES; k++) {
            all[k] = new Node(k);
        }
        startAnew(NODES_AT_FIRST);
    }

    public boolean begin(int nodes) {
        if (nodes < LEAST_NODES || nodes > MOST_NODES) {
            return false;
        }
        startAnew(nodes);
        return true;
    }

    public int read(int node, int page, int word) {
        if (!mayStart(node, page, word)) {
            return NONE;
        }
        Node me = all[node];
        me.hand.take(page, word, false, 0L);
        if (me.accessTo[page] == NO_ACCESS) {
            ask(me, ASK_READ, PAGE_TO_READ);
        } else {
            finish(me);
        }
        return doneAtOnce(me);
    }

    public int write(int node, int page, int word, long v) {
        if (!mayStart(node, page, word)) {
            return NONE;
        }
        Node me = all[node];
        me.hand.take(page, word, true, v);
        if (me.accessTo[page] == MAY_WRITE) {
            finish(me);
        } else if (me.owns[page]) {
            callBack(me);
            finishIfAllAnswered(me);
        } else {
            ask(me, ASK_WRITE, PAGE_TO_WRITE);
        }
        return doneAtOnce(me);
    }

    public int deliver(int i) {
        if (!mail.has(i)) {
            return NONE;
        }
        Letter come = mail.takeOut(i);
        Node me = all[come.to];
        switch (come.kind) {
            case ASK_READ:
            case ASK_WRITE:
                askingComes(me, come.kind, come.page, come.asker);
                break;
            case GIVE_READ:
                givenToRead(me, come);
                break;
            case GIVE_WRITE:
                givenToWrite(me, come);
                finishIfAllAnswered(me);
                break;
            case CALL:
                calledBack(me, come.page, come.from);
                break;
            default:
                me.hand.answersDue--;
                finishIfAllAnswered(me);
                break;
        }
        return come.kind;
    }

    public int waits(int node) {
        return isNode(node) ? all[node].hand.waitsFor : NONE;
    }

    public int at(int node, int what) {
        if (!isNode(node)) {
            return NONE;
        }
        Hand hand = all[node].hand;
        if (what == 4) {
            return hand.done;
        }
        if (!hand.everHadOne) {
            return NONE;
        }
        switch (what) {
            case 0:
                return hand.page;
            case 1:
                return hand.word;
            case 2:
                return hand.isWrite ? 1 : 0;
            case 3:
                return hand.answersDue;
            default:
                return NONE;
        }
    }

    public long result(int node) {
        return isNode(node) ? all[node].hand.result : 0L;
    }

    public int access(int node, int page) {
        return isNode(node) && isPage(page) ? all[node].accessTo[page] : NONE;
    }

    public int owner(int page) {
        if (!isPage(page)) {
            return NONE;
        }
        for (int k = 0; k < nodes; k++) {
            if (all[k].owns[page]) {
                return k;
            }
        }
        return NONE;
    }

    public int guess(int node, int page) {
        return isNode(node) && isPage(page) ? all[node].guessOf[page] : NONE;
    }

    public int copies(int node, int page) {
        return isNode(node) && isPage(page) ? all[node].copySet[page] : NONE;
    }

    public long word(int node, int page, int word) {
        return isNode(node) && isPage(page) && isWord(word)
                ? all[node].words[page * WORDS + word] : 0L;
    }

    public int queue(int node, int page) {
        return isNode(node) && isPage(page) ? all[node].queued[page] : NONE;
    }

    public int chain(int node, int page) {
        if (!isNode(node) || !isPage(page)) {
            return NONE;
        }
        Node here = all[node];
        // Who has not come to an end after one step for each node has been somewhere twice.
        for (int steps = 0; steps < nodes; steps++) {
            if (endsChain(here, page)) {
                return steps;
            }
            here = all[here.guessOf[page]];
        }
        return NONE;
    }

    public int flying() {
        return mail.flying;
    }

    public int letter(int i, int what) {
        if (!mail.has(i)) {
            return NO_LETTER;
        }
        Letter seen = mail.row[i];
        switch (what) {
            case 0:
                return seen.kind;
            case 1:
                return seen.from;
            case 2:
                return seen.to;
            case 3:
                return seen.page;
            case 4:
                return seen.asker;
            case 5:
                return seen.copySet;
            default:
                return NO_LETTER;
        }
    }

    public long letterWord(int i, int k) {
        if (!mail.has(i) || !isWord(k)) {
            return 0L;
        }
        Letter seen = mail.row[i];
        // Letters are used again, so one of another kind may still hold words of an older one.
        return seen.kind == GIVE_READ || seen.kind == GIVE_WRITE ? seen.words[k] : 0L;
    }

    public int count(int what) {
        return what >= 0 && what < COUNTS ? counts[what] : NONE;
    }

    private void startAnew(int howMany) {
        nodes = howMany;
        for (int k = 0; k < MOST_NODES; k++) {
            all[k].startAnew(howMany);
        }
        mail.flying = 0;
        Arrays.fill(counts, 0);
        counts[COUNT_NODES] = howMany;
    }

    private boolean isNode(int node) {
        return node >= 0 && node < nodes;
    }

    private static boolean isPage(int page) {
        return page >= 0 && page < PAGES;
    }

    private static boolean isWord(int word) {
        return word >= 0 && word < WORDS;
    }

    private boolean mayStart(int node, int page, int word) {
        return isNode(node) && isPage(page) && isWord(word)
                && all[node].hand.waitsFor == NOTHING;
    }

    private int doneAtOnce(Node me) {
        if (me.hand.waitsFor != NOTHING) {
            return 0;
        }
        counts[COUNT_AT_ONCE]++;
        return 1;
    }

    private void ask(Node me, int kind, int waitsFor) {
        int page = me.hand.page;
        me.hand.waitsFor = waitsFor;
        send(kind, me.number, me.guessOf[page], page).asker = me.number;
    }

    private Letter send(int kind, int from, int to, int page) {
        counts[COUNT_SENT]++;
        return mail.putIn(kind, from, to, page);
    }

    private void finish(Node me) {
        me.doWhatIsAtHand();
        counts[COUNT_DONE]++;
    }

    private void callBack(Node me) {
        int page = me.hand.page;
        int called = me.copySet[page];
        me.copySet[page] = 0;
        me.hand.waitsFor = ANSWERS;
        for (int k = 0; k < nodes; k++) {
            if ((called >> k & 1) == 1) {
                send(CALL, me.number, k, page);
                counts[COUNT_CALLS]++;
                me.hand.answersDue++;
            }
        }
    }

    private void finishIfAllAnswered(Node me) {
        if (me.hand.waitsFor != ANSWERS || me.hand.answersDue > 0) {
            return;
        }
        int page = me.hand.page;
        me.accessTo[page] = MAY_WRITE;
        finish(me);
        goOverQueue(me, page);
    }

    private void goOverQueue(Node me, int page) {
        int length = me.queued[page];
        me.queued[page] = 0;
        int first = page * MOST_NODES;
        for (int k = first; k < first + length; k++) {
            askingComes(me, me.queuedKinds[k], page, me.queuedAskers[k]);
        }
    }

    private void askingComes(Node me, int kind, int page, int asker) {
        if (me.hand.awaits(PAGE_TO_WRITE, page) || me.hand.awaits(ANSWERS, page)) {
            me.putInQueue(kind, page, asker);
        } else if (!me.owns[page]) {
            sendOn(me, kind, page, asker);
        } else if (kind == ASK_READ) {
            giveToRead(me, page, asker);
        } else {
            giveToWrite(me, page, asker);
        }
    }

    private void sendOn(Node me, int kind, int page, int asker) {
        send(kind, me.number, me.guessOf[page], page).asker = asker;
        counts[COUNT_SENT_ON]++;
        if (kind == ASK_WRITE) {
            me.guessOf[page] = asker;
        }
    }

    private void giveToRead(Node me, int page, int asker) {
        me.copySet[page] |= 1 << asker;
        me.accessTo[page] = MAY_READ;
        Letter gift = send(GIVE_READ, me.number, asker, page);
        System.arraycopy(me.words, page * WORDS, gift.words, 0, WORDS);
        counts[COUNT_GIVEN_TO_READ]++;
    }

    private void giveToWrite(Node me, int page, int asker) {
        Letter gift = send(GIVE_WRITE, me.number, asker, page);
        System.arraycopy(me.words, page * WORDS, gift.words, 0, WORDS);
        gift.copySet = me.copySet[page];
        counts[COUNT_GIVEN_TO_WRITE]++;
        // Only an owner has copies: they go with the page.
        me.copySet[page] = 0;
        me.owns[page] = false;
        me.accessTo[page] = NO_ACCESS;
        me.guessOf[page] = asker;
    }

    private void givenToRead(Node me, Letter gift) {
        int page = gift.page;
        System.arraycopy(gift.words, 0, me.words, page * WORDS, WORDS);
        me.guessOf[page] = gift.from;
        me.accessTo[page] = me.hand.wasCalled ? NO_ACCESS : MAY_READ;
        finish(me);
    }

    private void givenToWrite(Node me, Letter gift) {
        int page = gift.page;
        System.arraycopy(gift.words, 0, me.words, page * WORDS, WORDS);
        me.copySet[page] = gift.copySet & ~(1 << me.number);
        me.owns[page] = true;
        me.guessOf[page] = me.number;
        callBack(me);
    }

    private void calledBack(Node me, int page, int caller) {
        me.accessTo[page] = NO_ACCESS;
        me.guessOf[page] = caller;
        if (me.hand.awaits(PAGE_TO_READ, page)) {
            me.hand.wasCalled = true;
        }
        send(ANSWER, me.number, caller, page);
    }

    // A page is on its way only to a node that waits to write it, so that case needs no look at
    // the letters.
    private static boolean endsChain(Node here, int page) {
        return here.owns[page] || here.hand.awaits(PAGE_TO_WRITE, page);
    }

    /** The one thing that a node has at hand, or did last. */
    private static final class Hand {
        boolean everHadOne;
        int waitsFor;
        int page;
        int word;
        boolean isWrite;
        long value;
        int answersDue;
        boolean wasCalled;
        int done;
        long result;

        void startAnew() {
            take(0, 0, false, 0L);
            everHadOne = false;
            waitsFor = NOTHING;
            done = 0;
            result = 0L;
        }

        void take(int newPage, int newWord, boolean newIsWrite, long newValue) {
            everHadOne = true;
            page = newPage;
            word = newWord;
            isWrite = newIsWrite;
            value = newValue;
            answersDue = 0;
            wasCalled = false;
        }

        boolean awaits(int what, int ofPage) {
            return waitsFor == what && page == ofPage;
        }
    }

    /** A node with what it has of each page; rows of words and askings lie page behind page. */
    private static final class Node {
        final int number;
        final Hand hand = new Hand();
        final int[] accessTo = new int[PAGES];
        final boolean[] owns = new boolean[PAGES];
        final int[] guessOf = new int[PAGES];
        final int[] copySet = new int[PAGES];
        final long[] words = new long[PAGES * WORDS];
        final int[] queued = new int[PAGES];
        final int[] queuedKinds = new int[PAGES * MOST_NODES];
        final int[] queuedAskers = new int[PAGES * MOST_NODES];

        Node(int number) {
            this.number = number;
        }

        void startAnew(int howMany) {
            hand.startAnew();
            Arrays.fill(words, 0L);
            for (int page = 0; page < PAGES; page++) {
                int firstOwner = Math.floorMod(page, Math.max(howMany, 1));
                owns[page] = firstOwner == number;
                accessTo[page] = owns[page] ? MAY_WRITE : NO_ACCESS;
                guessOf[page] = firstOwner;
                copySet[page] = 0;
                queued[page] = 0;
            }
        }

        void putInQueue(int kind, int page, int asker) {
            // A node asks for one page at a time, so a queue never holds more than one of each.
            if (queued[page] >= MOST_NODES) {
                return;
            }
            int place = page * MOST_NODES + queued[page];
            queuedKinds[place] = kind;
            queuedAskers[place] = asker;
            queued[page]++;
        }

        void doWhatIsAtHand() {
            int place = hand.page * WORDS + hand.word;
            if (hand.isWrite) {
                words[place] = hand.value;
            }
            hand.result = words[place];
            hand.waitsFor = NOTHING;
            hand.done++;
        }
    }

    private static final class Letter {
        int kind;
        int from;
        int to;
        int page;
        int asker;
        int copySet;
        final long[] words = new long[WORDS];
    }

    /** The letters in flight, in the order in which they were sent, and behind them spare ones. */
    private static final class Mail {
        // Each of six nodes waits for one asking or gift, or for five calls or answers.
        static final int ROOM = 32;

        final Letter[] row = new Letter[ROOM];
        int flying;

        Mail() {
            for (int k = 0; k < ROOM; k++) {
                row[k] = new Letter();
            }
        }

        boolean has(int i) {
            return i >= 0 && i < flying;
        }

        Letter putIn(int kind, int from, int to, int page) {
            int place = Math.min(flying, ROOM - 1);
            flying = place + 1;
            Letter sent = row[place];
            sent.kind = kind;
            sent.from = from;
            sent.to = to;
            sent.page = page;
            sent.asker = NONE;
            sent.copySet = 0;
            return sent;
        }

        Letter takeOut(int i) {
            Letter taken = row[i];
            for (int k = i; k + 1 < ROOM; k++) {
                row[k] = row[k + 1];
            }
            // Behind all spare ones it is not written over while what it says is carried out.
            row[ROOM - 1] = taken;
            flying--;
            return taken;
        }
    }
}
