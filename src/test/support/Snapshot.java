/** All that can be seen of an object, as one text; a little beyond every edge too. */
final class Snapshot {
    private Snapshot() { }

    static String of(Pages x) {
        StringBuilder s = new StringBuilder();
        for (int what = -1; what <= 8; what++) {
            s.append(" count").append(what).append('=').append(x.count(what));
        }
        for (int page = -1; page <= 8; page++) {
            s.append("\nowner").append(page).append('=').append(x.owner(page));
        }
        for (int node = -1; node <= 6; node++) {
            nodeTo(s, x, node);
        }
        s.append("\nflying=").append(x.flying());
        for (int i = -1; i <= x.flying(); i++) {
            letterTo(s, x, i);
        }
        return s.toString();
    }

    /** The first line in which two texts differ, for a message that can be read. */
    static String difference(String got, String want) {
        String[] a = got.split("\n");
        String[] b = want.split("\n");
        for (int k = 0; k < Math.min(a.length, b.length); k++) {
            if (!a[k].equals(b[k])) {
                return "got [" + a[k] + "], due is [" + b[k] + "]";
            }
        }
        return a.length == b.length ? "" : "one of the two has more lines";
    }

    private static void nodeTo(StringBuilder s, Pages x, int node) {
        s.append("\nnode").append(node).append(" waits=").append(x.waits(node));
        s.append(" result=").append(x.result(node)).append(" at");
        for (int what = -1; what <= 5; what++) {
            s.append(' ').append(x.at(node, what));
        }
        for (int page = -1; page <= 8; page++) {
            s.append("\nnode").append(node).append(" page").append(page);
            s.append(" access=").append(x.access(node, page));
            s.append(" guess=").append(x.guess(node, page));
            s.append(" copies=").append(x.copies(node, page));
            s.append(" queue=").append(x.queue(node, page));
            s.append(" chain=").append(x.chain(node, page)).append(" words");
            for (int word = -1; word <= 4; word++) {
                s.append(' ').append(x.word(node, page, word));
            }
        }
    }

    private static void letterTo(StringBuilder s, Pages x, int i) {
        s.append("\nletter").append(i);
        for (int what = -1; what <= 6; what++) {
            s.append(' ').append(x.letter(i, what));
        }
        s.append(" words");
        for (int k = -1; k <= 4; k++) {
            s.append(' ').append(x.letterWord(i, k));
        }
    }
}
