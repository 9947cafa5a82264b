/** Objects in states that several tests begin from. */
final class Scenes {
    private Scenes() { }

    /** Lets all letters come, the oldest first. */
    static void calm(Pages x) {
        for (int k = 0; k < 1000 && x.flying() > 0; k++) {
            x.deliver(0);
        }
        Due.is("flying() at rest", x.flying(), 0);
    }

    static Pages begun(int nodes) {
        Pages x = new Real();
        Due.is("begin(" + nodes + ")", x.begin(nodes) ? 1 : 0, 1);
        return x;
    }

    /** Page 0 of four nodes: node 1 owns it and may write, node 0 gave it away. */
    static Pages ownedByOne() {
        Pages x = new Real();
        x.write(1, 0, 0, 10);
        calm(x);
        return x;
    }

    /** Page 0 of four nodes: node 0 owns it, nodes 1 to 3 have copies; word 2 is 55. */
    static Pages readByAll() {
        Pages x = new Real();
        x.write(0, 0, 2, 55);
        for (int node = 1; node <= 3; node++) {
            x.read(node, 0, 2);
        }
        calm(x);
        return x;
    }

    /**
     * Four nodes and all there is: words, copies, a queue, letters of several kinds. Node 0 waits
     * for page 0 to read, 1 for answers, 3 for page 1 to write; node 2 waits for nothing.
     */
    static Pages busy() {
        Pages x = readByAll();
        x.write(1, 0, 1, 66);
        x.deliver(0);
        x.deliver(0);
        x.read(0, 0, 1);
        x.deliver(x.flying() - 1);
        x.write(3, 1, 3, 77);
        Due.is("queue of a busy object", x.queue(1, 0), 1);
        Due.is("letters of a busy object", x.flying(), 3);
        return x;
    }

    /** So many nodes, all pages written and read, behind a run with six nodes: two letters fly. */
    static Pages used(int nodes) {
        Pages x = begun(6);
        stir(x, 6);
        x.begin(nodes);
        stir(x, nodes);
        calm(x);
        x.read((x.owner(7) + 1) % nodes, 7, 3);
        x.write(x.owner(7), 6, 0, 600);
        return x;
    }

    /** Calls of all nodes and pages that lie across one another, some letters in flight behind. */
    private static void stir(Pages x, int nodes) {
        for (int k = 0; k < 60; k++) {
            int node = k * 7 % nodes;
            int page = k * 3 % 8;
            if (k % 3 == 0) {
                x.read(node, page, k % 4);
            } else {
                x.write(node, page, k % 4, 1000 + k);
            }
            if (k % 4 != 3) {
                x.deliver(k % 2 == 0 ? 0 : x.flying() - 1);
            }
        }
    }
}
