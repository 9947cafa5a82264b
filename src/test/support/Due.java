/** Holds answers against what is due, and tells each wrong one under the sentence that asks it. */
final class Due {
    private static int wrong = 0;
    private static String sentence = "";

    private Due() { }

    /** What the answers from here on are asked by: where the document says it, and its words. */
    static void by(String where, String words) {
        sentence = words.isEmpty() ? where : where + " \"" + words + "\"";
    }

    static void is(String call, long got, long want) {
        if (got != want) {
            wrong++;
            System.out.println(sentence + ": " + call + " is " + got + ", due is " + want);
        }
    }

    /** All that can be seen of two objects is the same. */
    static void same(String when, Pages got, Pages want) {
        same(when, Snapshot.of(got), Snapshot.of(want));
    }

    static void same(String when, String got, String want) {
        if (!got.equals(want)) {
            wrong++;
            System.out.println(sentence + ": " + when + ": " + Snapshot.difference(got, want));
        }
    }

    /** Tells the outcome, and ends with exit code 1 if an answer was wrong. */
    static void end(String name) {
        System.out.println(name + ": "
                + (wrong == 0 ? "all as due" : wrong + " answers are not as due"));
        if (wrong != 0) {
            System.exit(1);
        }
    }
}
