/** Calls that the document refuses, and that nothing changes by them, seen or unseen. */
final class Refused {
    interface Scene {
        Pages make();
    }

    interface Call {
        long on(Pages x);
    }

    interface CallOfOne {
        long on(Pages x, int a);
    }

    interface CallOfTwo {
        long on(Pages x, int a, int b);
    }

    private Refused() { }

    /**
     * What lies outside least .. greatest: the first on both sides, the least and greatest int,
     * and numbers that a shift, a product or a narrower type would wrap round to a right one.
     */
    static int[] outside(int least, int greatest) {
        return new int[] {least - 1, greatest + 1, least - 2, greatest + 2, least - 32, least + 32,
            least + 64, least + 256, least + (1 << 16), 1 << 28, 1 << 29, 1 << 30, 3 << 29,
            Integer.MIN_VALUE, Integer.MIN_VALUE + 1, Integer.MAX_VALUE - 1, Integer.MAX_VALUE};
    }

    /** The call answers this, and the object is as one that has not had it, now and later on. */
    static void is(String told, Scene scene, long answer, Call call) {
        Pages x = scene.make();
        Pages without = scene.make();
        Due.is(told, call.on(x), answer);
        Due.same("after " + told, x, without);
        goOn(told, x, without);
    }

    /** As is(), of a call with each number outside least .. greatest. */
    static void outside(String told, Scene scene, int least, int greatest, long answer,
                        CallOfOne call) {
        for (int bad : outside(least, greatest)) {
            is(told + " with " + bad, scene, answer, x -> call.on(x, bad));
        }
    }

    /** As is(), of a call whose two numbers lie outside 0 .. a and 0 .. b. */
    static void bothOutside(String told, Scene scene, int a, int b, long answer, CallOfTwo call) {
        for (int first : new int[] {-1, a + 1, Integer.MIN_VALUE, Integer.MAX_VALUE}) {
            for (int second : new int[] {-1, b + 1, Integer.MIN_VALUE, Integer.MAX_VALUE}) {
                is(told + " with " + first + ", " + second, scene, answer,
                        x -> call.on(x, first, second));
            }
        }
    }

    // What a refused call spoilt may show only when it is used again.
    private static void goOn(String told, Pages x, Pages without) {
        for (int k = 0; k < 24; k++) {
            int i = k % 3 == 0 ? x.flying() - 1 : 0;
            Due.is("deliver(" + i + ") some time after " + told, x.deliver(i), without.deliver(i));
            int node = k % 6;
            Due.is("read some time after " + told, x.read(node, k % 8, 1),
                    without.read(node, k % 8, 1));
            Due.is("write some time after " + told, x.write(node, 7 - k % 8, 2, k),
                    without.write(node, 7 - k % 8, 2, k));
        }
        Due.same("some time after " + told, x, without);
    }
}
