/** The calls of PageOwners, so that the class and the model of the tests can be asked alike. */
interface Pages {
    boolean begin(int nodes);

    int read(int node, int page, int word);

    int write(int node, int page, int word, long v);

    int deliver(int i);

    int waits(int node);

    int at(int node, int what);

    long result(int node);

    int access(int node, int page);

    int owner(int page);

    int guess(int node, int page);

    int copies(int node, int page);

    long word(int node, int page, int word);

    int queue(int node, int page);

    int chain(int node, int page);

    int flying();

    int letter(int i, int what);

    long letterWord(int i, int k);

    int count(int what);
}
