/** A new object of the class under test, behind the face that the model has too. */
final class Real implements Pages {
    private final PageOwners x = new PageOwners();

    @Override public boolean begin(int nodes) { return x.begin(nodes); }

    @Override public int read(int node, int page, int word) { return x.read(node, page, word); }

    @Override public int write(int node, int page, int word, long v) {
        return x.write(node, page, word, v);
    }

    @Override public int deliver(int i) { return x.deliver(i); }

    @Override public int waits(int node) { return x.waits(node); }

    @Override public int at(int node, int what) { return x.at(node, what); }

    @Override public long result(int node) { return x.result(node); }

    @Override public int access(int node, int page) { return x.access(node, page); }

    @Override public int owner(int page) { return x.owner(page); }

    @Override public int guess(int node, int page) { return x.guess(node, page); }

    @Override public int copies(int node, int page) { return x.copies(node, page); }

    @Override public long word(int node, int page, int word) { return x.word(node, page, word); }

    @Override public int queue(int node, int page) { return x.queue(node, page); }

    @Override public int chain(int node, int page) { return x.chain(node, page); }

    @Override public int flying() { return x.flying(); }

    @Override public int letter(int i, int what) { return x.letter(i, what); }

    @Override public long letterWord(int i, int k) { return x.letterWord(i, k); }

    @Override public int count(int what) { return x.count(what); }
}
